variable {p : Program} {l : Launch} {e : Env} {R : Room} {s : State} {m : MethodId} {args : Array Value} {below : List Frame} {meth : Method} {c : Code} {Q : State → Prop} {D : va_G} {cy : Nat → ClassId} {ad sk sv : Nat → Nat}
def q_X9_isWithin (x0 : Int32) (x1 : Int32) (x2 : Int32) : Option (Int32) := if x0 < x1 then rz 0 (some 0) else if x2 < x0 then rz 0 (some 0) else rz 1 (some 1)
set_option maxHeartbeats 4000000 in
set_option maxRecDepth 100000 in
theorem b_X9_isWithin (C0 : cX p s m args meth c cX9_isWithin 3 (some .boolean) RX9 wsX9_isWithin D cy (xP ad sk sv)) (hj : jP ad) (hR : 0 ≤ R.frames ∧ 0 ≤ R.locals) (x0 : Int32) (x1 : Int32) (x2 : Int32) (f : mM) (t : Int64) (r : Int32) (hf : q_X9_isWithin x0 x1 x2 = some r) (kr : ∀ (H : Heap) (locs : List Loc) (ls : Array Slot) (pc : Nat), decode cX9_isWithin pc = .ok (.ireturn, 1) → narrow .boolean (.int r) = .int r → va_P D vwCl (wP ad cy f t) H → va_S (aP ad) s.heap H locs → W p l e R s m args below meth c H locs 0 0 Q (F0 m pc ls [.int r])) (H : Heap) (locs : List Loc) (ls : Array Slot) (hP : va_P D vwCl (wP ad cy f t) H) (hS : va_S (aP ad) s.heap H locs) (hl : lv_has ls 3 [(0, .int x0), (1, .int x1), (2, .int x2)]) : W p l e R s m args below meth c H locs 0 0 Q (F0 m 0 ls []) := by
  obtain ⟨hx, hb, hr, hml, hown, hts, hlocks, hK, hX0⟩ := id C0
  unfold q_X9_isWithin at hf
  refine lv_iload_n hx hb dX9_isWithin_0 rfl (lv_at hl 0 rfl) ?_
  refine lv_iload_n hx hb dX9_isWithin_1 rfl (lv_at hl 1 rfl) ?_
  refine lv_icmp_lt (tgt := 14) hx hb dX9_isWithin_2 (by decide) (fun c2 => ?_) (fun c2 => ?_)
  · have hf := itT hf c2
    refine lv_iconst (v := 0) hx hb dX9_isWithin_14 (by decide) ?_
    obtain ⟨hz, hf⟩ := rz_out hf
    obtain rfl := Option.some.inj hf
    exact kr H locs ls 15 dX9_isWithin_15 hz hP hS
  · have hf := itF hf c2
    refine lv_iload_n hx hb dX9_isWithin_5 rfl (lv_at hl 0 rfl) ?_
    refine lv_iload_n hx hb dX9_isWithin_6 rfl (lv_at hl 2 rfl) ?_
    refine lv_icmp_gt (tgt := 14) hx hb dX9_isWithin_7 (by decide) (fun c7 => ?_) (fun c7 => ?_)
    · have hf := itT hf c7
      refine lv_iconst (v := 0) hx hb dX9_isWithin_14 (by decide) ?_
      obtain ⟨hz, hf⟩ := rz_out hf
      obtain rfl := Option.some.inj hf
      exact kr H locs ls 15 dX9_isWithin_15 hz hP hS
    · have hf := itF hf c7
      refine lv_iconst (v := 1) hx hb dX9_isWithin_10 (by decide) ?_
      refine lv_goto (tgt := 15) hx hb dX9_isWithin_11 (by decide) ?_
      obtain ⟨hz, hf⟩ := rz_out hf
      obtain rfl := Option.some.inj hf
      exact kr H locs ls 15 dX9_isWithin_15 hz hP hS
set_option maxHeartbeats 4000000 in
set_option maxRecDepth 100000 in
theorem c_X9_isWithin (hj : jP ad) (l : Launch) (x0 : Int32) (x1 : Int32) (x2 : Int32) (f : mM) (t : Int64) (r : Int32) (hf : q_X9_isWithin x0 x1 x2 = some r) : Met l yX9_isWithin wsX9_isWithin ({ frames := 0, cells := 0, slots := 0, locals := 0 }) (va_Pc ([.int x0, .int x1, .int x2]) (pre D cy (wP ad cy) (xP ad sk sv) f t)) (va_Qi (fun (r2 : Int32) (u : mM × Int64) => r2 = r ∧ u = (f, t)) (atW D (wP ad cy)) (aP ad)) 0 0 (aP ad) := by
  refine Met.ofW (cc := cX9_isWithin) (maxL := 3) (ret := (some .boolean)) (by decide) rfl ?_
  intro p e s m args below meth c s₁ B hml hv
  obtain ⟨rfl, hP, hK, hX0⟩ := hv
  have hl := lv_entry ([.int x0, .int x1, .int x2]) (n := 3) (Nat.le_of_ble_eq_true rfl)
  rw [lg_entry_eq]
  generalize (lg_sl ([.int x0, .int x1, .int x2]) ++ List.replicate (3 - (lg_sl ([.int x0, .int x1, .int x2])).length) Slot.unset).toArray = ls at hl ⊢
  have hlocks := B.notSynchronized
  exact b_X9_isWithin ⟨B.exec, B.bytes, B.returns, hml, findClass_of_methodNamed B.named, atoms_spec (ws := wsX9_isWithin) B.pre, hlocks, hK, hX0⟩ hj ⟨Nat.le_refl _, Nat.le_refl _⟩ x0 x1 x2 f t r hf (fun H locs ls pc hd hz hP hS => W.zret B.exec B.bytes B.returns hz (fun t2 ht hW => ⟨⟨r, (f, t), rfl, ⟨rfl, rfl⟩, by show va_P D vwCl _ t2.heap; rw [ht]; exact hP⟩, hS.F ht⟩) hS.2.2 hd) s.heap [] ls hP va_S.rf hl
def q_X9_isIn (x0 : Int32) (x1 : Int32) : Option (Int32) := if ((x0 >>> (x1 &&& 31)) &&& 1) = 1 then rz 1 (some 1) else rz 0 (some 0)
set_option maxHeartbeats 4000000 in
set_option maxRecDepth 100000 in
theorem b_X9_isIn (C0 : cX p s m args meth c cX9_isIn 2 (some .boolean) RX9 wsX9_isIn D cy (xP ad sk sv)) (hj : jP ad) (hR : 0 ≤ R.frames ∧ 0 ≤ R.locals) (x0 : Int32) (x1 : Int32) (f : mM) (t : Int64) (r : Int32) (hf : q_X9_isIn x0 x1 = some r) (kr : ∀ (H : Heap) (locs : List Loc) (ls : Array Slot) (pc : Nat), decode cX9_isIn pc = .ok (.ireturn, 1) → narrow .boolean (.int r) = .int r → va_P D vwCl (wP ad cy f t) H → va_S (aP ad) s.heap H locs → W p l e R s m args below meth c H locs 0 0 Q (F0 m pc ls [.int r])) (H : Heap) (locs : List Loc) (ls : Array Slot) (hP : va_P D vwCl (wP ad cy f t) H) (hS : va_S (aP ad) s.heap H locs) (hl : lv_has ls 2 [(0, .int x0), (1, .int x1)]) : W p l e R s m args below meth c H locs 0 0 Q (F0 m 0 ls []) := by
  obtain ⟨hx, hb, hr, hml, hown, hts, hlocks, hK, hX0⟩ := id C0
  unfold q_X9_isIn at hf
  refine lv_iload_n hx hb dX9_isIn_0 rfl (lv_at hl 0 rfl) ?_
  refine lv_iload_n hx hb dX9_isIn_1 rfl (lv_at hl 1 rfl) ?_
  refine lv_ishr hx hb dX9_isIn_2 ?_
  refine lv_iconst (v := 1) hx hb dX9_isIn_3 (by decide) ?_
  refine lv_iand hx hb dX9_isIn_4 ?_
  refine lv_iconst (v := 1) hx hb dX9_isIn_5 (by decide) ?_
  refine lv_icmp_ne (tgt := 13) hx hb dX9_isIn_6 (by decide) (fun c6 => ?_) (fun c6 => ?_)
  · have hf := itF hf c6
    refine lv_iconst (v := 0) hx hb dX9_isIn_13 (by decide) ?_
    obtain ⟨hz, hf⟩ := rz_out hf
    obtain rfl := Option.some.inj hf
    exact kr H locs ls 14 dX9_isIn_14 hz hP hS
  · have hf := itT hf c6
    refine lv_iconst (v := 1) hx hb dX9_isIn_9 (by decide) ?_
    refine lv_goto (tgt := 14) hx hb dX9_isIn_10 (by decide) ?_
    obtain ⟨hz, hf⟩ := rz_out hf
    obtain rfl := Option.some.inj hf
    exact kr H locs ls 14 dX9_isIn_14 hz hP hS
set_option maxHeartbeats 4000000 in
set_option maxRecDepth 100000 in
theorem c_X9_isIn (hj : jP ad) (l : Launch) (x0 : Int32) (x1 : Int32) (f : mM) (t : Int64) (r : Int32) (hf : q_X9_isIn x0 x1 = some r) : Met l yX9_isIn wsX9_isIn ({ frames := 0, cells := 0, slots := 0, locals := 0 }) (va_Pc ([.int x0, .int x1]) (pre D cy (wP ad cy) (xP ad sk sv) f t)) (va_Qi (fun (r2 : Int32) (u : mM × Int64) => r2 = r ∧ u = (f, t)) (atW D (wP ad cy)) (aP ad)) 0 0 (aP ad) := by
  refine Met.ofW (cc := cX9_isIn) (maxL := 2) (ret := (some .boolean)) (by decide) rfl ?_
  intro p e s m args below meth c s₁ B hml hv
  obtain ⟨rfl, hP, hK, hX0⟩ := hv
  have hl := lv_entry ([.int x0, .int x1]) (n := 2) (Nat.le_of_ble_eq_true rfl)
  rw [lg_entry_eq]
  generalize (lg_sl ([.int x0, .int x1]) ++ List.replicate (2 - (lg_sl ([.int x0, .int x1])).length) Slot.unset).toArray = ls at hl ⊢
  have hlocks := B.notSynchronized
  exact b_X9_isIn ⟨B.exec, B.bytes, B.returns, hml, findClass_of_methodNamed B.named, atoms_spec (ws := wsX9_isIn) B.pre, hlocks, hK, hX0⟩ hj ⟨Nat.le_refl _, Nat.le_refl _⟩ x0 x1 f t r hf (fun H locs ls pc hd hz hP hS => W.zret B.exec B.bytes B.returns hz (fun t2 ht hW => ⟨⟨r, (f, t), rfl, ⟨rfl, rfl⟩, by show va_P D vwCl _ t2.heap; rw [ht]; exact hP⟩, hS.F ht⟩) hS.2.2 hd) s.heap [] ls hP va_S.rf hl
def q_X9_isImage (x0 : Int32) : Option (Int32) := bi (q_X9_isWithin x0 0 1) (fun y1 => rz y1 (some y1))
set_option maxHeartbeats 4000000 in
set_option maxRecDepth 100000 in
theorem b_X9_isImage (C0 : cX p s m args meth c cX9_isImage 1 (some .boolean) RX9 wsX9_isImage D cy (xP ad sk sv)) (hj : jP ad) (hR : 1 ≤ R.frames ∧ 22 ≤ R.locals) (x0 : Int32) (f : mM) (t : Int64) (r : Int32) (hf : q_X9_isImage x0 = some r) (kr : ∀ (H : Heap) (locs : List Loc) (ls : Array Slot) (pc : Nat), decode cX9_isImage pc = .ok (.ireturn, 1) → narrow .boolean (.int r) = .int r → va_P D vwCl (wP ad cy f t) H → va_S (aP ad) s.heap H locs → W p l e R s m args below meth c H locs 0 0 Q (F0 m pc ls [.int r])) (H : Heap) (locs : List Loc) (ls : Array Slot) (hP : va_P D vwCl (wP ad cy f t) H) (hS : va_S (aP ad) s.heap H locs) (hl : lv_has ls 1 [(0, .int x0)]) : W p l e R s m args below meth c H locs 0 0 Q (F0 m 0 ls []) := by
  obtain ⟨hx, hb, hr, hml, hown, hts, hlocks, hK, hX0⟩ := id C0
  unfold q_X9_isImage at hf
  refine lv_iload_n hx hb dX9_isImage_0 rfl (lv_at hl 0 rfl) ?_
  refine lv_iconst (v := 0) hx hb dX9_isImage_1 (by decide) ?_
  refine lv_iconst (v := 1) hx hb dX9_isImage_2 (by decide) ?_
  obtain ⟨y1, hq2, hf⟩ := bi_out hf
  refine cw_si (As := [.int x0, .int 0, .int 1]) (rest := []) ⟨hx, hb, hml, hown, hts⟩ xP_S hK hX0 hS hP (c_X9_isWithin hj l x0 0 1 f t y1 hq2) (va_cwS 3 hts gX9_isImage_X9_isWithin rfl rfl rfl (by decide +kernel) ⟨Nat.le_trans (Nat.le_of_ble_eq_true rfl) hR.1, Nat.le_trans (Nat.le_of_ble_eq_true rfl) hR.2⟩) rfl hl.1 rfl (Nat.le_of_ble_eq_true rfl) ⟨Nat.zero_le _, Nat.zero_le _⟩ dX9_isImage_3 (fun H locs hP hS => ?_)
  obtain ⟨hz, hf⟩ := rz_out hf
  obtain rfl := Option.some.inj hf
  exact kr H locs ls 6 dX9_isImage_6 hz hP hS
set_option maxHeartbeats 4000000 in
set_option maxRecDepth 100000 in
theorem c_X9_isImage (hj : jP ad) (l : Launch) (x0 : Int32) (f : mM) (t : Int64) (r : Int32) (hf : q_X9_isImage x0 = some r) : Met l yX9_isImage wsX9_isImage ({ frames := 1, cells := 0, slots := 0, locals := 22 }) (va_Pc ([.int x0]) (pre D cy (wP ad cy) (xP ad sk sv) f t)) (va_Qi (fun (r2 : Int32) (u : mM × Int64) => r2 = r ∧ u = (f, t)) (atW D (wP ad cy)) (aP ad)) 0 0 (aP ad) := by
  refine Met.ofW (cc := cX9_isImage) (maxL := 1) (ret := (some .boolean)) (by decide) rfl ?_
  intro p e s m args below meth c s₁ B hml hv
  obtain ⟨rfl, hP, hK, hX0⟩ := hv
  have hl := lv_entry ([.int x0]) (n := 1) (Nat.le_of_ble_eq_true rfl)
  rw [lg_entry_eq]
  generalize (lg_sl ([.int x0]) ++ List.replicate (1 - (lg_sl ([.int x0])).length) Slot.unset).toArray = ls at hl ⊢
  have hlocks := B.notSynchronized
  exact b_X9_isImage ⟨B.exec, B.bytes, B.returns, hml, findClass_of_methodNamed B.named, atoms_spec (ws := wsX9_isImage) B.pre, hlocks, hK, hX0⟩ hj ⟨Nat.le_refl _, Nat.le_refl _⟩ x0 f t r hf (fun H locs ls pc hd hz hP hS => W.zret B.exec B.bytes B.returns hz (fun t2 ht hW => ⟨⟨r, (f, t), rfl, ⟨rfl, rfl⟩, by show va_P D vwCl _ t2.heap; rw [ht]; exact hP⟩, hS.F ht⟩) hS.2.2 hd) s.heap [] ls hP va_S.rf hl
def q_X7_hasRoomFor (x1 : Int32) (f : mM) : Option (Int32) := if (300 - (f 1 1)) < x1 then rz 0 (some 0) else rz 1 (some 1)
set_option maxHeartbeats 4000000 in
set_option maxRecDepth 100000 in
theorem b_X7_hasRoomFor (C0 : cX p s m args meth c cX7_hasRoomFor 2 (some .boolean) RX7 wsX7_hasRoomFor D cy (xP ad sk sv)) (hj : jP ad) (hR : 0 ≤ R.frames ∧ 0 ≤ R.locals) (x1 : Int32) (f : mM) (t : Int64) (r : Int32) (hf : q_X7_hasRoomFor x1 f = some r) (kr : ∀ (H : Heap) (locs : List Loc) (ls : Array Slot) (pc : Nat), decode cX7_hasRoomFor pc = .ok (.ireturn, 1) → narrow .boolean (.int r) = .int r → va_P D vwCl (wP ad cy f t) H → va_S (aP ad) s.heap H locs → W p l e R s m args below meth c H locs 0 0 Q (F0 m pc ls [.int r])) (H : Heap) (locs : List Loc) (ls : Array Slot) (hP : va_P D vwCl (wP ad cy f t) H) (hS : va_S (aP ad) s.heap H locs) (hl : lv_has ls 2 [(0, .ref (ad 1)), (1, .int x1)]) : W p l e R s m args below meth c H locs 0 0 Q (F0 m 0 ls []) := by
  obtain ⟨hx, hb, hr, hml, hown, hts, hlocks, hK, hX0⟩ := id C0
  have lk15 := hts (.fieldLink RX7 15 "PlankNine$Text" "length" "I") (List.mem_of_getElem? (i := 1) rfl)
  have hiX7 : ∀ w ∈ u_ws RX7 TX7 2, w ∈ wsX7_hasRoomFor := fun w h => List.mem_cons_of_mem _ (List.mem_append_right _ h)
  unfold q_X7_hasRoomFor at hf
  refine lv_iload_n hx hb dX7_hasRoomFor_0 rfl (lv_at hl 1 rfl) ?_
  refine lv_sipush (v := 300) hx hb dX7_hasRoomFor_1 (by decide) ?_
  refine lv_aload_n hx hb dX7_hasRoomFor_4 rfl (lv_at hl 0 rfl) ?_
  refine va_get (D := D) (ci := 7) (v := .int (f 1 1)) (C := RX7) (T := TX7) (N := 2) hx hb hts hiX7 hown hK hP 1 rfl rfl 1 (by decide) lk15 (fun _ h9 => h9) rfl dX7_hasRoomFor_5 ?_
  refine lv_isub hx hb dX7_hasRoomFor_8 ?_
  refine lv_icmp_gt (tgt := 16) hx hb dX7_hasRoomFor_9 (by decide) (fun c9 => ?_) (fun c9 => ?_)
  · have hf := itT hf c9
    refine lv_iconst (v := 0) hx hb dX7_hasRoomFor_16 (by decide) ?_
    obtain ⟨hz, hf⟩ := rz_out hf
    obtain rfl := Option.some.inj hf
    exact kr H locs ls 17 dX7_hasRoomFor_17 hz hP hS
  · have hf := itF hf c9
    refine lv_iconst (v := 1) hx hb dX7_hasRoomFor_12 (by decide) ?_
    refine lv_goto (tgt := 17) hx hb dX7_hasRoomFor_13 (by decide) ?_
    obtain ⟨hz, hf⟩ := rz_out hf
    obtain rfl := Option.some.inj hf
    exact kr H locs ls 17 dX7_hasRoomFor_17 hz hP hS
set_option maxHeartbeats 4000000 in
set_option maxRecDepth 100000 in
theorem c_X7_hasRoomFor (hj : jP ad) (l : Launch) (x1 : Int32) (f : mM) (t : Int64) (r : Int32) (hf : q_X7_hasRoomFor x1 f = some r) : Met l yX7_hasRoomFor wsX7_hasRoomFor ({ frames := 0, cells := 0, slots := 0, locals := 0 }) (va_Pc ([.ref (ad 1), .int x1]) (pre D cy (wP ad cy) (xP ad sk sv) f t)) (va_Qi (fun (r2 : Int32) (u : mM × Int64) => r2 = r ∧ u = (f, t)) (atW D (wP ad cy)) (aP ad)) 0 0 (aP ad) := by
  refine Met.ofW (cc := cX7_hasRoomFor) (maxL := 2) (ret := (some .boolean)) (by decide) rfl ?_
  intro p e s m args below meth c s₁ B hml hv
  obtain ⟨rfl, hP, hK, hX0⟩ := hv
  have hl := lv_entry ([.ref (ad 1), .int x1]) (n := 2) (Nat.le_of_ble_eq_true rfl)
  rw [lg_entry_eq]
  generalize (lg_sl ([.ref (ad 1), .int x1]) ++ List.replicate (2 - (lg_sl ([.ref (ad 1), .int x1])).length) Slot.unset).toArray = ls at hl ⊢
  have hlocks := B.notSynchronized
  exact b_X7_hasRoomFor ⟨B.exec, B.bytes, B.returns, hml, findClass_of_methodNamed B.named, atoms_spec (ws := wsX7_hasRoomFor) B.pre, hlocks, hK, hX0⟩ hj ⟨Nat.le_refl _, Nat.le_refl _⟩ x1 f t r hf (fun H locs ls pc hd hz hP hS => W.zret B.exec B.bytes B.returns hz (fun t2 ht hW => ⟨⟨r, (f, t), rfl, ⟨rfl, rfl⟩, by show va_P D vwCl _ t2.heap; rw [ht]; exact hP⟩, hS.F ht⟩) hS.2.2 hd) s.heap [] ls hP va_S.rf hl
def lp_X7_add_5 (N : Nat) (x1 : Int64) : Nat → Int32 → mM → Option (mM)
  | 0, _, _ => none
  | n + 1, x4, f => if x4 < 0 then some f else if 300 ≤ (f 1 1) then some f else gi (f 1 1) 300 (sq (st2 f 2 (Int32.toNatClampNeg (f 1 1)) (vp_nar .byte (Int8.toInt32 (Int32.toInt8 (Int64.toInt32 (x1 >>> (Int32.toInt64 (8 * x4) &&& 63))))))) (fun f3 => sq (st2 f3 1 1 ((f3 1 1) + 1)) (fun f4 => sq (x4 + (-1)) (fun x4_5 => lp_X7_add_5 N x1 n x4_5 f4))))
theorem lp_X7_add_5_s (N : Nat) (x1 : Int64) (n : Nat) (x4 : Int32) (f : mM) : lp_X7_add_5 N x1 (n + 1) x4 f = (if x4 < 0 then some f else if 300 ≤ (f 1 1) then some f else gi (f 1 1) 300 (sq (st2 f 2 (Int32.toNatClampNeg (f 1 1)) (vp_nar .byte (Int8.toInt32 (Int32.toInt8 (Int64.toInt32 (x1 >>> (Int32.toInt64 (8 * x4) &&& 63))))))) (fun f3 => sq (st2 f3 1 1 ((f3 1 1) + 1)) (fun f4 => sq (x4 + (-1)) (fun x4_5 => lp_X7_add_5 N x1 n x4_5 f4))))) := rfl
set_option maxHeartbeats 4000000 in
set_option maxRecDepth 100000 in
theorem lp_X7_add_5_w (C0 : cX p s m args meth c cX7_add 5 none RX7 wsX7_add D cy (xP ad sk sv)) (hj : jP ad) (hR : 0 ≤ R.frames ∧ 0 ≤ R.locals) (N : Nat) (x1 : Int64) (t : Int64) (fR : mM) (kx54 : ∀ (H : Heap) (locs : List Loc) (ls : Array Slot), va_P D vwCl (wP ad cy fR t) H → va_S (aP ad) s.heap H locs → lv_has ls 5 [] → W p l e R s m args below meth c H locs 0 0 Q (F0 m 54 ls [])) : ∀ (n : Nat) (x4 : Int32) (f : mM), lp_X7_add_5 N x1 n x4 f = some fR → ∀ (H : Heap) (locs : List Loc) (ls : Array Slot), va_P D vwCl (wP ad cy f t) H → va_S (aP ad) s.heap H locs → lv_has ls 5 [(0, .ref (ad 1)), (1, .long x1), (4, .int x4)] → W p l e R s m args below meth c H locs 0 0 Q (F0 m 5 ls []) := by
  obtain ⟨hx, hb, hr, hml, hown, hts, hlocks, hK, hX0⟩ := id C0
  have lk15 := hts (.fieldLink RX7 15 "PlankNine$Text" "length" "I") (List.mem_of_getElem? (i := 1) rfl)
  have hiX7 : ∀ w ∈ u_ws RX7 TX7 2, w ∈ wsX7_add := fun w h => List.mem_cons_of_mem _ (List.mem_append_right _ h)
  have lk9 := hts (.fieldLink RX7 9 "PlankNine$Text" "bytes" "[B") (List.mem_of_getElem? (i := 2) rfl)
  intro n
  induction n with
  | zero =>
    intro x4 f hf
    exact no_none hf
  | succ n ih =>
    intro x4 f hf H locs ls hP hS hl
    have hf := (lp_X7_add_5_s N x1 n x4 f).symm.trans hf
    refine lv_iload hx hb dX7_add_5 (lv_at hl 2 rfl) ?_
    refine lv_if_lt (tgt := 54) hx hb dX7_add_7 (by decide) (fun c7 => ?_) (fun c7 => ?_)
    · have hf := itT hf c7
      obtain rfl := Option.some.inj hf
      exact kx54 H locs ls hP hS (lv_sub hl [] rfl)
    · have hf := itF hf c7
      refine lv_aload_n hx hb dX7_add_10 rfl (lv_at hl 0 rfl) ?_
      refine va_get (D := D) (ci := 7) (v := .int (f 1 1)) (C := RX7) (T := TX7) (N := 2) hx hb hts hiX7 hown hK hP 1 rfl rfl 1 (by decide) lk15 (fun _ h9 => h9) rfl dX7_add_11 ?_
      refine lv_sipush (v := 300) hx hb dX7_add_14 (by decide) ?_
      refine lv_icmp_ge (tgt := 54) hx hb dX7_add_17 (by decide) (fun c17 => ?_) (fun c17 => ?_)
      · have hf := itT hf c17
        obtain rfl := Option.some.inj hf
        exact kx54 H locs ls hP hS (lv_sub hl [] rfl)
      · have hf := itF hf c17
        refine lv_aload_n hx hb dX7_add_20 rfl (lv_at hl 0 rfl) ?_
        refine va_get (D := D) (ci := 7) (v := .ref (ad 2)) (C := RX7) (T := TX7) (N := 2) hx hb hts hiX7 hown hK hP 1 rfl rfl 0 (by decide) lk9 (fun _ h9 => h9) rfl dX7_add_21 ?_
        refine lv_aload_n hx hb dX7_add_24 rfl (lv_at hl 0 rfl) ?_
        refine va_get (D := D) (ci := 7) (v := .int (f 1 1)) (C := RX7) (T := TX7) (N := 2) hx hb hts hiX7 hown hK hP 1 rfl rfl 1 (by decide) lk15 (fun _ h9 => h9) rfl dX7_add_25 ?_
        refine lv_lload_n hx hb dX7_add_28 rfl (lv_at hl 1 rfl) ?_
        refine lv_bipush (v := 8) hx hb dX7_add_29 (by decide) ?_
        refine lv_iload hx hb dX7_add_31 (lv_at hl 2 rfl) ?_
        refine lv_imul hx hb dX7_add_33 ?_
        refine lv_lshr hx hb dX7_add_34 rfl ?_
        refine lv_l2i hx hb dX7_add_35 rfl ?_
        refine lv_i2b hx hb dX7_add_36 rfl ?_
        obtain ⟨hin2, hf⟩ := gi_out hf
        obtain ⟨f3, ef3, hf⟩ := sq_out hf
        refine va_bast hx hb hK hP (dP hj f t) hS 2 0 rfl rfl hin2 dX7_add_37 (fun H locs hP _ hS => ?_)
        have hP := sP_2 ef3 hP
        refine lv_aload_n hx hb dX7_add_38 rfl (lv_at hl 0 rfl) ?_
        refine lv_dup hx hb dX7_add_39 rfl ?_
        refine va_get (D := D) (ci := 7) (v := .int (f3 1 1)) (C := RX7) (T := TX7) (N := 2) hx hb hts hiX7 hown hK hP 1 rfl rfl 1 (by decide) lk15 (fun _ h9 => h9) rfl dX7_add_40 ?_
        refine lv_iconst (v := 1) hx hb dX7_add_43 (by decide) ?_
        refine lv_iadd hx hb dX7_add_44 ?_
        obtain ⟨f4, ef4, hf⟩ := sq_out hf
        refine va_put (D := D) (ci := 7) (v := .int ((f3 1 1) + 1)) (ty := .int) (C := RX7) (T := TX7) (N := 2) hx hb hts hiX7 tyX7 tyX7_ok nmX7 hown hK hP (dP hj f3 t) hS 1 rfl rfl 1 (by decide) lk15 (fun _ h9 => h9) rfl (by decide +kernel) rfl rfl (Nat.le_of_ble_eq_true rfl) dX7_add_45 (fun H locs hP _ hS => ?_)
        have hP := sP_1_1 ef4 hP
        obtain ⟨x4_5, ex4_5, hf⟩ := sq_out hf
        refine lv_iinc (v := x4_5) (lv' := [(4, .int x4_5), (0, .ref (ad 1)), (1, .long x1)]) hx hb dX7_add_48 hl (k := 2) rfl (by rw [ex4_5]; rfl) (by decide) rfl (fun ls hl => ?_)
        refine lv_goto (tgt := 5) hx hb dX7_add_51 (by decide) ?_
        exact ih x4_5 f4 hf H locs ls hP hS (lv_sub hl [1, 2, 0] rfl)
def q_X7_add (N : Nat) (x1 : Int64) (x3 : Int32) (f : mM) : Option (mM) := sq (x3 - 1) (fun x4_1 => bi (lp_X7_add_5 N x1 N x4_1 f) (fun f6 => some f6))
set_option maxHeartbeats 4000000 in
set_option maxRecDepth 100000 in
theorem b_X7_add (C0 : cX p s m args meth c cX7_add 5 none RX7 wsX7_add D cy (xP ad sk sv)) (hj : jP ad) (hR : 0 ≤ R.frames ∧ 0 ≤ R.locals) (N : Nat) (x1 : Int64) (x3 : Int32) (f : mM) (t : Int64) (fR : mM) (hf : q_X7_add N x1 x3 f = some fR) (kr : ∀ (H : Heap) (locs : List Loc) (ls : Array Slot) (pc : Nat), decode cX7_add pc = .ok (.return_, 1) → va_P D vwCl (wP ad cy fR t) H → va_S (aP ad) s.heap H locs → W p l e R s m args below meth c H locs 0 0 Q (F0 m pc ls [])) (H : Heap) (locs : List Loc) (ls : Array Slot) (hP : va_P D vwCl (wP ad cy f t) H) (hS : va_S (aP ad) s.heap H locs) (hl : lv_has ls 5 [(0, .ref (ad 1)), (1, .long x1), (3, .int x3)]) : W p l e R s m args below meth c H locs 0 0 Q (F0 m 0 ls []) := by
  obtain ⟨hx, hb, hr, hml, hown, hts, hlocks, hK, hX0⟩ := id C0
  unfold q_X7_add at hf
  refine lv_iload_n hx hb dX7_add_0 rfl (lv_at hl 2 rfl) ?_
  refine lv_iconst (v := 1) hx hb dX7_add_1 (by decide) ?_
  refine lv_isub hx hb dX7_add_2 ?_
  obtain ⟨x4_1, ex4_1, hf⟩ := sq_out hf
  refine lv_nmi ex4_1 ?_
  refine lv_istore (lv' := [(4, .int x4_1), (0, .ref (ad 1)), (1, .long x1), (3, .int x3)]) hx hb dX7_add_3 hl (by decide) rfl (fun ls hl => ?_)
  obtain ⟨f6, hlp7, hf⟩ := bi_out hf
  refine lp_X7_add_5_w C0 hj hR N x1 t f6 ?_ N x4_1 f hlp7 H locs ls hP hS (lv_sub hl [1, 2, 0] rfl)
  intro H locs ls hP hS hl
  obtain rfl := Option.some.inj hf
  exact kr H locs ls 54 dX7_add_54 hP hS
set_option maxHeartbeats 4000000 in
set_option maxRecDepth 100000 in
theorem c_X7_add (hj : jP ad) (l : Launch) (N : Nat) (x1 : Int64) (x3 : Int32) (f : mM) (t : Int64) (fR : mM) (hf : q_X7_add N x1 x3 f = some fR) : Met l yX7_add wsX7_add ({ frames := 0, cells := 0, slots := 0, locals := 0 }) (va_Pc ([.ref (ad 1), .long x1, .int x3]) (pre D cy (wP ad cy) (xP ad sk sv) f t)) (va_Qv (fun (u : mM × Int64) => u = (fR, t)) (atW D (wP ad cy)) (aP ad)) 0 0 (aP ad) := by
  refine Met.ofW (cc := cX7_add) (maxL := 5) (ret := none) (by decide) rfl ?_
  intro p e s m args below meth c s₁ B hml hv
  obtain ⟨rfl, hP, hK, hX0⟩ := hv
  have hl := lv_entry ([.ref (ad 1), .long x1, .int x3]) (n := 5) (Nat.le_of_ble_eq_true rfl)
  rw [lg_entry_eq]
  generalize (lg_sl ([.ref (ad 1), .long x1, .int x3]) ++ List.replicate (5 - (lg_sl ([.ref (ad 1), .long x1, .int x3])).length) Slot.unset).toArray = ls at hl ⊢
  have hlocks := B.notSynchronized
  exact b_X7_add ⟨B.exec, B.bytes, B.returns, hml, findClass_of_methodNamed B.named, atoms_spec (ws := wsX7_add) B.pre, hlocks, hK, hX0⟩ hj ⟨Nat.le_refl _, Nat.le_refl _⟩ N x1 x3 f t fR hf (fun H locs ls pc hd hP hS => W.vret B.exec B.bytes B.returns (fun t2 ht hW => ⟨⟨(fR, t), rfl, rfl, by show va_P D vwCl _ t2.heap; rw [ht]; exact hP⟩, hS.F ht⟩) hS.2.2 hd) s.heap [] ls hP va_S.rf hl
def q_X7_byteAt (x1 : Int32) (f : mM) : Option (Int32) := if x1 < 0 then some (-1) else if (f 1 1) ≤ x1 then some (-1) else gi x1 300 (some ((f 2 (Int32.toNatClampNeg x1)) &&& 255))
set_option maxHeartbeats 4000000 in
set_option maxRecDepth 100000 in
theorem b_X7_byteAt (C0 : cX p s m args meth c cX7_byteAt 2 (some .int) RX7 wsX7_byteAt D cy (xP ad sk sv)) (hj : jP ad) (hR : 0 ≤ R.frames ∧ 0 ≤ R.locals) (x1 : Int32) (f : mM) (t : Int64) (r : Int32) (hf : q_X7_byteAt x1 f = some r) (kr : ∀ (H : Heap) (locs : List Loc) (ls : Array Slot) (pc : Nat), decode cX7_byteAt pc = .ok (.ireturn, 1) → va_P D vwCl (wP ad cy f t) H → va_S (aP ad) s.heap H locs → W p l e R s m args below meth c H locs 0 0 Q (F0 m pc ls [.int r])) (H : Heap) (locs : List Loc) (ls : Array Slot) (hP : va_P D vwCl (wP ad cy f t) H) (hS : va_S (aP ad) s.heap H locs) (hl : lv_has ls 2 [(0, .ref (ad 1)), (1, .int x1)]) : W p l e R s m args below meth c H locs 0 0 Q (F0 m 0 ls []) := by
  obtain ⟨hx, hb, hr, hml, hown, hts, hlocks, hK, hX0⟩ := id C0
  have lk15 := hts (.fieldLink RX7 15 "PlankNine$Text" "length" "I") (List.mem_of_getElem? (i := 1) rfl)
  have hiX7 : ∀ w ∈ u_ws RX7 TX7 2, w ∈ wsX7_byteAt := fun w h => List.mem_cons_of_mem _ (List.mem_append_right _ h)
  have lk9 := hts (.fieldLink RX7 9 "PlankNine$Text" "bytes" "[B") (List.mem_of_getElem? (i := 2) rfl)
  unfold q_X7_byteAt at hf
  refine lv_iload_n hx hb dX7_byteAt_0 rfl (lv_at hl 1 rfl) ?_
  refine lv_if_lt (tgt := 25) hx hb dX7_byteAt_1 (by decide) (fun c1 => ?_) (fun c1 => ?_)
  · have hf := itT hf c1
    refine lv_iconst (v := (-1)) hx hb dX7_byteAt_25 (by decide) ?_
    obtain rfl := Option.some.inj hf
    exact kr H locs ls 26 dX7_byteAt_26 hP hS
  · have hf := itF hf c1
    refine lv_iload_n hx hb dX7_byteAt_4 rfl (lv_at hl 1 rfl) ?_
    refine lv_aload_n hx hb dX7_byteAt_5 rfl (lv_at hl 0 rfl) ?_
    refine va_get (D := D) (ci := 7) (v := .int (f 1 1)) (C := RX7) (T := TX7) (N := 2) hx hb hts hiX7 hown hK hP 1 rfl rfl 1 (by decide) lk15 (fun _ h9 => h9) rfl dX7_byteAt_6 ?_
    refine lv_icmp_ge (tgt := 25) hx hb dX7_byteAt_9 (by decide) (fun c9 => ?_) (fun c9 => ?_)
    · have hf := itT hf c9
      refine lv_iconst (v := (-1)) hx hb dX7_byteAt_25 (by decide) ?_
      obtain rfl := Option.some.inj hf
      exact kr H locs ls 26 dX7_byteAt_26 hP hS
    · have hf := itF hf c9
      refine lv_aload_n hx hb dX7_byteAt_12 rfl (lv_at hl 0 rfl) ?_
      refine va_get (D := D) (ci := 7) (v := .ref (ad 2)) (C := RX7) (T := TX7) (N := 2) hx hb hts hiX7 hown hK hP 1 rfl rfl 0 (by decide) lk9 (fun _ h9 => h9) rfl dX7_byteAt_13 ?_
      refine lv_iload_n hx hb dX7_byteAt_16 rfl (lv_at hl 1 rfl) ?_
      obtain ⟨hin1, hf⟩ := gi_out hf
      refine va_bald hx hb hK hP 2 0 rfl rfl hin1 dX7_byteAt_17 ?_
      refine lv_sipush (v := 255) hx hb dX7_byteAt_18 (by decide) ?_
      refine lv_iand hx hb dX7_byteAt_21 ?_
      refine lv_goto (tgt := 26) hx hb dX7_byteAt_22 (by decide) ?_
      obtain rfl := Option.some.inj hf
      exact kr H locs ls 26 dX7_byteAt_26 hP hS
set_option maxHeartbeats 4000000 in
set_option maxRecDepth 100000 in
theorem c_X7_byteAt (hj : jP ad) (l : Launch) (x1 : Int32) (f : mM) (t : Int64) (r : Int32) (hf : q_X7_byteAt x1 f = some r) : Met l yX7_byteAt wsX7_byteAt ({ frames := 0, cells := 0, slots := 0, locals := 0 }) (va_Pc ([.ref (ad 1), .int x1]) (pre D cy (wP ad cy) (xP ad sk sv) f t)) (va_Qi (fun (r2 : Int32) (u : mM × Int64) => r2 = r ∧ u = (f, t)) (atW D (wP ad cy)) (aP ad)) 0 0 (aP ad) := by
  refine Met.ofW (cc := cX7_byteAt) (maxL := 2) (ret := (some .int)) (by decide) rfl ?_
  intro p e s m args below meth c s₁ B hml hv
  obtain ⟨rfl, hP, hK, hX0⟩ := hv
  have hl := lv_entry ([.ref (ad 1), .int x1]) (n := 2) (Nat.le_of_ble_eq_true rfl)
  rw [lg_entry_eq]
  generalize (lg_sl ([.ref (ad 1), .int x1]) ++ List.replicate (2 - (lg_sl ([.ref (ad 1), .int x1])).length) Slot.unset).toArray = ls at hl ⊢
  have hlocks := B.notSynchronized
  exact b_X7_byteAt ⟨B.exec, B.bytes, B.returns, hml, findClass_of_methodNamed B.named, atoms_spec (ws := wsX7_byteAt) B.pre, hlocks, hK, hX0⟩ hj ⟨Nat.le_refl _, Nat.le_refl _⟩ x1 f t r hf (fun H locs ls pc hd hP hS => W.iret B.exec B.bytes B.returns (fun t2 ht hW => ⟨⟨r, (f, t), rfl, ⟨rfl, rfl⟩, by show va_P D vwCl _ t2.heap; rw [ht]; exact hP⟩, hS.F ht⟩) hS.2.2 hd) s.heap [] ls hP va_S.rf hl
def q_X2_forgetAll (f : mM) : Option (mM) := sq (st2 f 13 0 4) (fun f1 => sq (st2 f1 13 1 0) (fun f2 => sq (st2 f2 13 2 0) (fun f3 => sq (st2 f3 13 3 0) (fun f4 => some f4))))
set_option maxHeartbeats 4000000 in
set_option maxRecDepth 100000 in
theorem b_X2_forgetAll (C0 : cX p s m args meth c cX2_forgetAll 1 none RX2 wsX2_forgetAll D cy (xP ad sk sv)) (hj : jP ad) (hR : 0 ≤ R.frames ∧ 0 ≤ R.locals)  (f : mM) (t : Int64) (fR : mM) (hf : q_X2_forgetAll f = some fR) (kr : ∀ (H : Heap) (locs : List Loc) (ls : Array Slot) (pc : Nat), decode cX2_forgetAll pc = .ok (.return_, 1) → va_P D vwCl (wP ad cy fR t) H → va_S (aP ad) s.heap H locs → W p l e R s m args below meth c H locs 0 0 Q (F0 m pc ls [])) (H : Heap) (locs : List Loc) (ls : Array Slot) (hP : va_P D vwCl (wP ad cy f t) H) (hS : va_S (aP ad) s.heap H locs) (hl : lv_has ls 1 [(0, .ref (ad 13))]) : W p l e R s m args below meth c H locs 0 0 Q (F0 m 0 ls []) := by
  obtain ⟨hx, hb, hr, hml, hown, hts, hlocks, hK, hX0⟩ := id C0
  have lk9 := hts (.fieldLink RX2 9 "PlankNine$Marsh" "places" "I") (List.mem_of_getElem? (i := 1) rfl)
  have hiX2 : ∀ w ∈ u_ws RX2 TX2 12, w ∈ wsX2_forgetAll := fun w h => List.mem_cons_of_mem _ (List.mem_append_right _ h)
  have lk15 := hts (.fieldLink RX2 15 "PlankNine$Marsh" "planks" "I") (List.mem_of_getElem? (i := 2) rfl)
  have lk18 := hts (.fieldLink RX2 18 "PlankNine$Marsh" "people" "I") (List.mem_of_getElem? (i := 3) rfl)
  have lk21 := hts (.fieldLink RX2 21 "PlankNine$Marsh" "errands" "I") (List.mem_of_getElem? (i := 4) rfl)
  unfold q_X2_forgetAll at hf
  refine lv_aload_n hx hb dX2_forgetAll_0 rfl (lv_at hl 0 rfl) ?_
  refine lv_iconst (v := 4) hx hb dX2_forgetAll_1 (by decide) ?_
  obtain ⟨f1, ef1, hf⟩ := sq_out hf
  refine va_put (D := D) (ci := 2) (v := .int 4) (ty := .int) (C := RX2) (T := TX2) (N := 12) hx hb hts hiX2 tyX2 tyX2_ok nmX2 hown hK hP (dP hj f t) hS 13 rfl rfl 0 (by decide) lk9 (fun _ h9 => h9) rfl (by decide +kernel) rfl rfl (Nat.le_of_ble_eq_true rfl) dX2_forgetAll_2 (fun H locs hP _ hS => ?_)
  have hP := sP_13_0 ef1 hP
  refine lv_aload_n hx hb dX2_forgetAll_5 rfl (lv_at hl 0 rfl) ?_
  refine lv_iconst (v := 0) hx hb dX2_forgetAll_6 (by decide) ?_
  obtain ⟨f2, ef2, hf⟩ := sq_out hf
  refine va_put (D := D) (ci := 2) (v := .int 0) (ty := .int) (C := RX2) (T := TX2) (N := 12) hx hb hts hiX2 tyX2 tyX2_ok nmX2 hown hK hP (dP hj f1 t) hS 13 rfl rfl 1 (by decide) lk15 (fun _ h9 => h9) rfl (by decide +kernel) rfl rfl (Nat.le_of_ble_eq_true rfl) dX2_forgetAll_7 (fun H locs hP _ hS => ?_)
  have hP := sP_13_1 ef2 hP
  refine lv_aload_n hx hb dX2_forgetAll_10 rfl (lv_at hl 0 rfl) ?_
  refine lv_iconst (v := 0) hx hb dX2_forgetAll_11 (by decide) ?_
  obtain ⟨f3, ef3, hf⟩ := sq_out hf
  refine va_put (D := D) (ci := 2) (v := .int 0) (ty := .int) (C := RX2) (T := TX2) (N := 12) hx hb hts hiX2 tyX2 tyX2_ok nmX2 hown hK hP (dP hj f2 t) hS 13 rfl rfl 2 (by decide) lk18 (fun _ h9 => h9) rfl (by decide +kernel) rfl rfl (Nat.le_of_ble_eq_true rfl) dX2_forgetAll_12 (fun H locs hP _ hS => ?_)
  have hP := sP_13_2 ef3 hP
  refine lv_aload_n hx hb dX2_forgetAll_15 rfl (lv_at hl 0 rfl) ?_
  refine lv_iconst (v := 0) hx hb dX2_forgetAll_16 (by decide) ?_
  obtain ⟨f4, ef4, hf⟩ := sq_out hf
  refine va_put (D := D) (ci := 2) (v := .int 0) (ty := .int) (C := RX2) (T := TX2) (N := 12) hx hb hts hiX2 tyX2 tyX2_ok nmX2 hown hK hP (dP hj f3 t) hS 13 rfl rfl 3 (by decide) lk21 (fun _ h9 => h9) rfl (by decide +kernel) rfl rfl (Nat.le_of_ble_eq_true rfl) dX2_forgetAll_17 (fun H locs hP _ hS => ?_)
  have hP := sP_13_3 ef4 hP
  obtain rfl := Option.some.inj hf
  exact kr H locs ls 20 dX2_forgetAll_20 hP hS
set_option maxHeartbeats 4000000 in
set_option maxRecDepth 100000 in
theorem c_X2_forgetAll (hj : jP ad) (l : Launch)  (f : mM) (t : Int64) (fR : mM) (hf : q_X2_forgetAll f = some fR) : Met l yX2_forgetAll wsX2_forgetAll ({ frames := 0, cells := 0, slots := 0, locals := 0 }) (va_Pc ([.ref (ad 13)]) (pre D cy (wP ad cy) (xP ad sk sv) f t)) (va_Qv (fun (u : mM × Int64) => u = (fR, t)) (atW D (wP ad cy)) (aP ad)) 0 0 (aP ad) := by
  refine Met.ofW (cc := cX2_forgetAll) (maxL := 1) (ret := none) (by decide) rfl ?_
  intro p e s m args below meth c s₁ B hml hv
  obtain ⟨rfl, hP, hK, hX0⟩ := hv
  have hl := lv_entry ([.ref (ad 13)]) (n := 1) (Nat.le_of_ble_eq_true rfl)
  rw [lg_entry_eq]
  generalize (lg_sl ([.ref (ad 13)]) ++ List.replicate (1 - (lg_sl ([.ref (ad 13)])).length) Slot.unset).toArray = ls at hl ⊢
  have hlocks := B.notSynchronized
  exact b_X2_forgetAll ⟨B.exec, B.bytes, B.returns, hml, findClass_of_methodNamed B.named, atoms_spec (ws := wsX2_forgetAll) B.pre, hlocks, hK, hX0⟩ hj ⟨Nat.le_refl _, Nat.le_refl _⟩  f t fR hf (fun H locs ls pc hd hP hS => W.vret B.exec B.bytes B.returns (fun t2 ht hW => ⟨⟨(fR, t), rfl, rfl, by show va_P D vwCl _ t2.heap; rw [ht]; exact hP⟩, hS.F ht⟩) hS.2.2 hd) s.heap [] ls hP va_S.rf hl
def q_X2_addPlank (x1 : Int32) (x2 : Int32) (x3 : Int32) (f : mM) : Option (mM) := if 9 ≤ (f 13 1) then some f else gi (f 13 1) 9 (sq (st2 f 14 (Int32.toNatClampNeg (f 13 1)) x1) (fun f2 => gi (f2 13 1) 9 (sq (st2 f2 15 (Int32.toNatClampNeg (f2 13 1)) x2) (fun f4 => gi (f4 13 1) 9 (sq (st2 f4 16 (Int32.toNatClampNeg (f4 13 1)) x3) (fun f6 => sq (st2 f6 13 1 ((f6 13 1) + 1)) (fun f7 => some f7)))))))
set_option maxHeartbeats 4000000 in
set_option maxRecDepth 100000 in
theorem b_X2_addPlank (C0 : cX p s m args meth c cX2_addPlank 4 none RX2 wsX2_addPlank D cy (xP ad sk sv)) (hj : jP ad) (hR : 0 ≤ R.frames ∧ 0 ≤ R.locals) (x1 : Int32) (x2 : Int32) (x3 : Int32) (f : mM) (t : Int64) (fR : mM) (hf : q_X2_addPlank x1 x2 x3 f = some fR) (kr : ∀ (H : Heap) (locs : List Loc) (ls : Array Slot) (pc : Nat), decode cX2_addPlank pc = .ok (.return_, 1) → va_P D vwCl (wP ad cy fR t) H → va_S (aP ad) s.heap H locs → W p l e R s m args below meth c H locs 0 0 Q (F0 m pc ls [])) (H : Heap) (locs : List Loc) (ls : Array Slot) (hP : va_P D vwCl (wP ad cy f t) H) (hS : va_S (aP ad) s.heap H locs) (hl : lv_has ls 4 [(0, .ref (ad 13)), (1, .int x1), (2, .int x2), (3, .int x3)]) : W p l e R s m args below meth c H locs 0 0 Q (F0 m 0 ls []) := by
  obtain ⟨hx, hb, hr, hml, hown, hts, hlocks, hK, hX0⟩ := id C0
  have lk15 := hts (.fieldLink RX2 15 "PlankNine$Marsh" "planks" "I") (List.mem_of_getElem? (i := 1) rfl)
  have hiX2 : ∀ w ∈ u_ws RX2 TX2 12, w ∈ wsX2_addPlank := fun w h => List.mem_cons_of_mem _ (List.mem_append_right _ h)
  have lk24 := hts (.fieldLink RX2 24 "PlankNine$Marsh" "endA" "[I") (List.mem_of_getElem? (i := 2) rfl)
  have lk28 := hts (.fieldLink RX2 28 "PlankNine$Marsh" "endB" "[I") (List.mem_of_getElem? (i := 3) rfl)
  have lk31 := hts (.fieldLink RX2 31 "PlankNine$Marsh" "toldToBear" "[I") (List.mem_of_getElem? (i := 4) rfl)
  unfold q_X2_addPlank at hf
  refine lv_aload_n hx hb dX2_addPlank_0 rfl (lv_at hl 0 rfl) ?_
  refine va_get (D := D) (ci := 2) (v := .int (f 13 1)) (C := RX2) (T := TX2) (N := 12) hx hb hts hiX2 hown hK hP 13 rfl rfl 1 (by decide) lk15 (fun _ h9 => h9) rfl dX2_addPlank_1 ?_
  refine lv_bipush (v := 9) hx hb dX2_addPlank_4 (by decide) ?_
  refine lv_icmp_ge (tgt := 49) hx hb dX2_addPlank_6 (by decide) (fun c6 => ?_) (fun c6 => ?_)
  · have hf := itT hf c6
    obtain rfl := Option.some.inj hf
    exact kr H locs ls 49 dX2_addPlank_49 hP hS
  · have hf := itF hf c6
    refine lv_aload_n hx hb dX2_addPlank_9 rfl (lv_at hl 0 rfl) ?_
    refine va_get (D := D) (ci := 2) (v := .ref (ad 14)) (C := RX2) (T := TX2) (N := 12) hx hb hts hiX2 hown hK hP 13 rfl rfl 4 (by decide) lk24 (fun _ h9 => h9) rfl dX2_addPlank_10 ?_
    refine lv_aload_n hx hb dX2_addPlank_13 rfl (lv_at hl 0 rfl) ?_
    refine va_get (D := D) (ci := 2) (v := .int (f 13 1)) (C := RX2) (T := TX2) (N := 12) hx hb hts hiX2 hown hK hP 13 rfl rfl 1 (by decide) lk15 (fun _ h9 => h9) rfl dX2_addPlank_14 ?_
    refine lv_iload_n hx hb dX2_addPlank_17 rfl (lv_at hl 1 rfl) ?_
    obtain ⟨hin1, hf⟩ := gi_out hf
    obtain ⟨f2, ef2, hf⟩ := sq_out hf
    refine va_iast hx hb hK hP (dP hj f t) hS 14 1 rfl rfl hin1 dX2_addPlank_18 (fun H locs hP _ hS => ?_)
    have hP := sP_14 ef2 hP
    refine lv_aload_n hx hb dX2_addPlank_19 rfl (lv_at hl 0 rfl) ?_
    refine va_get (D := D) (ci := 2) (v := .ref (ad 15)) (C := RX2) (T := TX2) (N := 12) hx hb hts hiX2 hown hK hP 13 rfl rfl 5 (by decide) lk28 (fun _ h9 => h9) rfl dX2_addPlank_20 ?_
    refine lv_aload_n hx hb dX2_addPlank_23 rfl (lv_at hl 0 rfl) ?_
    refine va_get (D := D) (ci := 2) (v := .int (f2 13 1)) (C := RX2) (T := TX2) (N := 12) hx hb hts hiX2 hown hK hP 13 rfl rfl 1 (by decide) lk15 (fun _ h9 => h9) rfl dX2_addPlank_24 ?_
    refine lv_iload_n hx hb dX2_addPlank_27 rfl (lv_at hl 2 rfl) ?_
    obtain ⟨hin3, hf⟩ := gi_out hf
    obtain ⟨f4, ef4, hf⟩ := sq_out hf
    refine va_iast hx hb hK hP (dP hj f2 t) hS 15 1 rfl rfl hin3 dX2_addPlank_28 (fun H locs hP _ hS => ?_)
    have hP := sP_15 ef4 hP
    refine lv_aload_n hx hb dX2_addPlank_29 rfl (lv_at hl 0 rfl) ?_
    refine va_get (D := D) (ci := 2) (v := .ref (ad 16)) (C := RX2) (T := TX2) (N := 12) hx hb hts hiX2 hown hK hP 13 rfl rfl 6 (by decide) lk31 (fun _ h9 => h9) rfl dX2_addPlank_30 ?_
    refine lv_aload_n hx hb dX2_addPlank_33 rfl (lv_at hl 0 rfl) ?_
    refine va_get (D := D) (ci := 2) (v := .int (f4 13 1)) (C := RX2) (T := TX2) (N := 12) hx hb hts hiX2 hown hK hP 13 rfl rfl 1 (by decide) lk15 (fun _ h9 => h9) rfl dX2_addPlank_34 ?_
    refine lv_iload_n hx hb dX2_addPlank_37 rfl (lv_at hl 3 rfl) ?_
    obtain ⟨hin5, hf⟩ := gi_out hf
    obtain ⟨f6, ef6, hf⟩ := sq_out hf
    refine va_iast hx hb hK hP (dP hj f4 t) hS 16 1 rfl rfl hin5 dX2_addPlank_38 (fun H locs hP _ hS => ?_)
    have hP := sP_16 ef6 hP
    refine lv_aload_n hx hb dX2_addPlank_39 rfl (lv_at hl 0 rfl) ?_
    refine lv_dup hx hb dX2_addPlank_40 rfl ?_
    refine va_get (D := D) (ci := 2) (v := .int (f6 13 1)) (C := RX2) (T := TX2) (N := 12) hx hb hts hiX2 hown hK hP 13 rfl rfl 1 (by decide) lk15 (fun _ h9 => h9) rfl dX2_addPlank_41 ?_
    refine lv_iconst (v := 1) hx hb dX2_addPlank_44 (by decide) ?_
    refine lv_iadd hx hb dX2_addPlank_45 ?_
    obtain ⟨f7, ef7, hf⟩ := sq_out hf
    refine va_put (D := D) (ci := 2) (v := .int ((f6 13 1) + 1)) (ty := .int) (C := RX2) (T := TX2) (N := 12) hx hb hts hiX2 tyX2 tyX2_ok nmX2 hown hK hP (dP hj f6 t) hS 13 rfl rfl 1 (by decide) lk15 (fun _ h9 => h9) rfl (by decide +kernel) rfl rfl (Nat.le_of_ble_eq_true rfl) dX2_addPlank_46 (fun H locs hP _ hS => ?_)
    have hP := sP_13_1 ef7 hP
    obtain rfl := Option.some.inj hf
    exact kr H locs ls 49 dX2_addPlank_49 hP hS
set_option maxHeartbeats 4000000 in
set_option maxRecDepth 100000 in
theorem c_X2_addPlank (hj : jP ad) (l : Launch) (x1 : Int32) (x2 : Int32) (x3 : Int32) (f : mM) (t : Int64) (fR : mM) (hf : q_X2_addPlank x1 x2 x3 f = some fR) : Met l yX2_addPlank wsX2_addPlank ({ frames := 0, cells := 0, slots := 0, locals := 0 }) (va_Pc ([.ref (ad 13), .int x1, .int x2, .int x3]) (pre D cy (wP ad cy) (xP ad sk sv) f t)) (va_Qv (fun (u : mM × Int64) => u = (fR, t)) (atW D (wP ad cy)) (aP ad)) 0 0 (aP ad) := by
  refine Met.ofW (cc := cX2_addPlank) (maxL := 4) (ret := none) (by decide) rfl ?_
  intro p e s m args below meth c s₁ B hml hv
  obtain ⟨rfl, hP, hK, hX0⟩ := hv
  have hl := lv_entry ([.ref (ad 13), .int x1, .int x2, .int x3]) (n := 4) (Nat.le_of_ble_eq_true rfl)
  rw [lg_entry_eq]
  generalize (lg_sl ([.ref (ad 13), .int x1, .int x2, .int x3]) ++ List.replicate (4 - (lg_sl ([.ref (ad 13), .int x1, .int x2, .int x3])).length) Slot.unset).toArray = ls at hl ⊢
  have hlocks := B.notSynchronized
  exact b_X2_addPlank ⟨B.exec, B.bytes, B.returns, hml, findClass_of_methodNamed B.named, atoms_spec (ws := wsX2_addPlank) B.pre, hlocks, hK, hX0⟩ hj ⟨Nat.le_refl _, Nat.le_refl _⟩ x1 x2 x3 f t fR hf (fun H locs ls pc hd hP hS => W.vret B.exec B.bytes B.returns (fun t2 ht hW => ⟨⟨(fR, t), rfl, rfl, by show va_P D vwCl _ t2.heap; rw [ht]; exact hP⟩, hS.F ht⟩) hS.2.2 hd) s.heap [] ls hP va_S.rf hl
def q_X2_addPerson (x1 : Int32) (x2 : Int32) (f : mM) : Option (mM) := if 4 ≤ (f 13 2) then some f else gi (f 13 2) 4 (sq (st2 f 17 (Int32.toNatClampNeg (f 13 2)) x1) (fun f2 => gi (f2 13 2) 4 (sq (st2 f2 18 (Int32.toNatClampNeg (f2 13 2)) x2) (fun f4 => sq (st2 f4 13 2 ((f4 13 2) + 1)) (fun f5 => some f5)))))
set_option maxHeartbeats 4000000 in
set_option maxRecDepth 100000 in
theorem b_X2_addPerson (C0 : cX p s m args meth c cX2_addPerson 3 none RX2 wsX2_addPerson D cy (xP ad sk sv)) (hj : jP ad) (hR : 0 ≤ R.frames ∧ 0 ≤ R.locals) (x1 : Int32) (x2 : Int32) (f : mM) (t : Int64) (fR : mM) (hf : q_X2_addPerson x1 x2 f = some fR) (kr : ∀ (H : Heap) (locs : List Loc) (ls : Array Slot) (pc : Nat), decode cX2_addPerson pc = .ok (.return_, 1) → va_P D vwCl (wP ad cy fR t) H → va_S (aP ad) s.heap H locs → W p l e R s m args below meth c H locs 0 0 Q (F0 m pc ls [])) (H : Heap) (locs : List Loc) (ls : Array Slot) (hP : va_P D vwCl (wP ad cy f t) H) (hS : va_S (aP ad) s.heap H locs) (hl : lv_has ls 3 [(0, .ref (ad 13)), (1, .int x1), (2, .int x2)]) : W p l e R s m args below meth c H locs 0 0 Q (F0 m 0 ls []) := by
  obtain ⟨hx, hb, hr, hml, hown, hts, hlocks, hK, hX0⟩ := id C0
  have lk18 := hts (.fieldLink RX2 18 "PlankNine$Marsh" "people" "I") (List.mem_of_getElem? (i := 1) rfl)
  have hiX2 : ∀ w ∈ u_ws RX2 TX2 12, w ∈ wsX2_addPerson := fun w h => List.mem_cons_of_mem _ (List.mem_append_right _ h)
  have lk34 := hts (.fieldLink RX2 34 "PlankNine$Marsh" "weight" "[I") (List.mem_of_getElem? (i := 2) rfl)
  have lk37 := hts (.fieldLink RX2 37 "PlankNine$Marsh" "stride" "[I") (List.mem_of_getElem? (i := 3) rfl)
  unfold q_X2_addPerson at hf
  refine lv_aload_n hx hb dX2_addPerson_0 rfl (lv_at hl 0 rfl) ?_
  refine va_get (D := D) (ci := 2) (v := .int (f 13 2)) (C := RX2) (T := TX2) (N := 12) hx hb hts hiX2 hown hK hP 13 rfl rfl 2 (by decide) lk18 (fun _ h9 => h9) rfl dX2_addPerson_1 ?_
  refine lv_iconst (v := 4) hx hb dX2_addPerson_4 (by decide) ?_
  refine lv_icmp_ge (tgt := 38) hx hb dX2_addPerson_5 (by decide) (fun c5 => ?_) (fun c5 => ?_)
  · have hf := itT hf c5
    obtain rfl := Option.some.inj hf
    exact kr H locs ls 38 dX2_addPerson_38 hP hS
  · have hf := itF hf c5
    refine lv_aload_n hx hb dX2_addPerson_8 rfl (lv_at hl 0 rfl) ?_
    refine va_get (D := D) (ci := 2) (v := .ref (ad 17)) (C := RX2) (T := TX2) (N := 12) hx hb hts hiX2 hown hK hP 13 rfl rfl 7 (by decide) lk34 (fun _ h9 => h9) rfl dX2_addPerson_9 ?_
    refine lv_aload_n hx hb dX2_addPerson_12 rfl (lv_at hl 0 rfl) ?_
    refine va_get (D := D) (ci := 2) (v := .int (f 13 2)) (C := RX2) (T := TX2) (N := 12) hx hb hts hiX2 hown hK hP 13 rfl rfl 2 (by decide) lk18 (fun _ h9 => h9) rfl dX2_addPerson_13 ?_
    refine lv_iload_n hx hb dX2_addPerson_16 rfl (lv_at hl 1 rfl) ?_
    obtain ⟨hin1, hf⟩ := gi_out hf
    obtain ⟨f2, ef2, hf⟩ := sq_out hf
    refine va_iast hx hb hK hP (dP hj f t) hS 17 1 rfl rfl hin1 dX2_addPerson_17 (fun H locs hP _ hS => ?_)
    have hP := sP_17 ef2 hP
    refine lv_aload_n hx hb dX2_addPerson_18 rfl (lv_at hl 0 rfl) ?_
    refine va_get (D := D) (ci := 2) (v := .ref (ad 18)) (C := RX2) (T := TX2) (N := 12) hx hb hts hiX2 hown hK hP 13 rfl rfl 8 (by decide) lk37 (fun _ h9 => h9) rfl dX2_addPerson_19 ?_
    refine lv_aload_n hx hb dX2_addPerson_22 rfl (lv_at hl 0 rfl) ?_
    refine va_get (D := D) (ci := 2) (v := .int (f2 13 2)) (C := RX2) (T := TX2) (N := 12) hx hb hts hiX2 hown hK hP 13 rfl rfl 2 (by decide) lk18 (fun _ h9 => h9) rfl dX2_addPerson_23 ?_
    refine lv_iload_n hx hb dX2_addPerson_26 rfl (lv_at hl 2 rfl) ?_
    obtain ⟨hin3, hf⟩ := gi_out hf
    obtain ⟨f4, ef4, hf⟩ := sq_out hf
    refine va_iast hx hb hK hP (dP hj f2 t) hS 18 1 rfl rfl hin3 dX2_addPerson_27 (fun H locs hP _ hS => ?_)
    have hP := sP_18 ef4 hP
    refine lv_aload_n hx hb dX2_addPerson_28 rfl (lv_at hl 0 rfl) ?_
    refine lv_dup hx hb dX2_addPerson_29 rfl ?_
    refine va_get (D := D) (ci := 2) (v := .int (f4 13 2)) (C := RX2) (T := TX2) (N := 12) hx hb hts hiX2 hown hK hP 13 rfl rfl 2 (by decide) lk18 (fun _ h9 => h9) rfl dX2_addPerson_30 ?_
    refine lv_iconst (v := 1) hx hb dX2_addPerson_33 (by decide) ?_
    refine lv_iadd hx hb dX2_addPerson_34 ?_
    obtain ⟨f5, ef5, hf⟩ := sq_out hf
    refine va_put (D := D) (ci := 2) (v := .int ((f4 13 2) + 1)) (ty := .int) (C := RX2) (T := TX2) (N := 12) hx hb hts hiX2 tyX2 tyX2_ok nmX2 hown hK hP (dP hj f4 t) hS 13 rfl rfl 2 (by decide) lk18 (fun _ h9 => h9) rfl (by decide +kernel) rfl rfl (Nat.le_of_ble_eq_true rfl) dX2_addPerson_35 (fun H locs hP _ hS => ?_)
    have hP := sP_13_2 ef5 hP
    obtain rfl := Option.some.inj hf
    exact kr H locs ls 38 dX2_addPerson_38 hP hS
set_option maxHeartbeats 4000000 in
set_option maxRecDepth 100000 in
theorem c_X2_addPerson (hj : jP ad) (l : Launch) (x1 : Int32) (x2 : Int32) (f : mM) (t : Int64) (fR : mM) (hf : q_X2_addPerson x1 x2 f = some fR) : Met l yX2_addPerson wsX2_addPerson ({ frames := 0, cells := 0, slots := 0, locals := 0 }) (va_Pc ([.ref (ad 13), .int x1, .int x2]) (pre D cy (wP ad cy) (xP ad sk sv) f t)) (va_Qv (fun (u : mM × Int64) => u = (fR, t)) (atW D (wP ad cy)) (aP ad)) 0 0 (aP ad) := by
  refine Met.ofW (cc := cX2_addPerson) (maxL := 3) (ret := none) (by decide) rfl ?_
  intro p e s m args below meth c s₁ B hml hv
  obtain ⟨rfl, hP, hK, hX0⟩ := hv
  have hl := lv_entry ([.ref (ad 13), .int x1, .int x2]) (n := 3) (Nat.le_of_ble_eq_true rfl)
  rw [lg_entry_eq]
  generalize (lg_sl ([.ref (ad 13), .int x1, .int x2]) ++ List.replicate (3 - (lg_sl ([.ref (ad 13), .int x1, .int x2])).length) Slot.unset).toArray = ls at hl ⊢
  have hlocks := B.notSynchronized
  exact b_X2_addPerson ⟨B.exec, B.bytes, B.returns, hml, findClass_of_methodNamed B.named, atoms_spec (ws := wsX2_addPerson) B.pre, hlocks, hK, hX0⟩ hj ⟨Nat.le_refl _, Nat.le_refl _⟩ x1 x2 f t fR hf (fun H locs ls pc hd hP hS => W.vret B.exec B.bytes B.returns (fun t2 ht hW => ⟨⟨(fR, t), rfl, rfl, by show va_P D vwCl _ t2.heap; rw [ht]; exact hP⟩, hS.F ht⟩) hS.2.2 hd) s.heap [] ls hP va_S.rf hl
def q_X2_addErrand (x1 : Int32) (x2 : Int32) (x3 : Int32) (f : mM) : Option (mM) := if 3 ≤ (f 13 3) then some f else gi (f 13 3) 3 (sq (st2 f 19 (Int32.toNatClampNeg (f 13 3)) x1) (fun f2 => gi (f2 13 3) 3 (sq (st2 f2 20 (Int32.toNatClampNeg (f2 13 3)) x2) (fun f4 => gi (f4 13 3) 3 (sq (st2 f4 21 (Int32.toNatClampNeg (f4 13 3)) x3) (fun f6 => sq (st2 f6 13 3 ((f6 13 3) + 1)) (fun f7 => some f7)))))))
set_option maxHeartbeats 4000000 in
set_option maxRecDepth 100000 in
theorem b_X2_addErrand (C0 : cX p s m args meth c cX2_addErrand 4 none RX2 wsX2_addErrand D cy (xP ad sk sv)) (hj : jP ad) (hR : 0 ≤ R.frames ∧ 0 ≤ R.locals) (x1 : Int32) (x2 : Int32) (x3 : Int32) (f : mM) (t : Int64) (fR : mM) (hf : q_X2_addErrand x1 x2 x3 f = some fR) (kr : ∀ (H : Heap) (locs : List Loc) (ls : Array Slot) (pc : Nat), decode cX2_addErrand pc = .ok (.return_, 1) → va_P D vwCl (wP ad cy fR t) H → va_S (aP ad) s.heap H locs → W p l e R s m args below meth c H locs 0 0 Q (F0 m pc ls [])) (H : Heap) (locs : List Loc) (ls : Array Slot) (hP : va_P D vwCl (wP ad cy f t) H) (hS : va_S (aP ad) s.heap H locs) (hl : lv_has ls 4 [(0, .ref (ad 13)), (1, .int x1), (2, .int x2), (3, .int x3)]) : W p l e R s m args below meth c H locs 0 0 Q (F0 m 0 ls []) := by
  obtain ⟨hx, hb, hr, hml, hown, hts, hlocks, hK, hX0⟩ := id C0
  have lk21 := hts (.fieldLink RX2 21 "PlankNine$Marsh" "errands" "I") (List.mem_of_getElem? (i := 1) rfl)
  have hiX2 : ∀ w ∈ u_ws RX2 TX2 12, w ∈ wsX2_addErrand := fun w h => List.mem_cons_of_mem _ (List.mem_append_right _ h)
  have lk40 := hts (.fieldLink RX2 40 "PlankNine$Marsh" "who" "[I") (List.mem_of_getElem? (i := 2) rfl)
  have lk43 := hts (.fieldLink RX2 43 "PlankNine$Marsh" "from" "[I") (List.mem_of_getElem? (i := 3) rfl)
  have lk46 := hts (.fieldLink RX2 46 "PlankNine$Marsh" "to" "[I") (List.mem_of_getElem? (i := 4) rfl)
  unfold q_X2_addErrand at hf
  refine lv_aload_n hx hb dX2_addErrand_0 rfl (lv_at hl 0 rfl) ?_
  refine va_get (D := D) (ci := 2) (v := .int (f 13 3)) (C := RX2) (T := TX2) (N := 12) hx hb hts hiX2 hown hK hP 13 rfl rfl 3 (by decide) lk21 (fun _ h9 => h9) rfl dX2_addErrand_1 ?_
  refine lv_iconst (v := 3) hx hb dX2_addErrand_4 (by decide) ?_
  refine lv_icmp_ge (tgt := 48) hx hb dX2_addErrand_5 (by decide) (fun c5 => ?_) (fun c5 => ?_)
  · have hf := itT hf c5
    obtain rfl := Option.some.inj hf
    exact kr H locs ls 48 dX2_addErrand_48 hP hS
  · have hf := itF hf c5
    refine lv_aload_n hx hb dX2_addErrand_8 rfl (lv_at hl 0 rfl) ?_
    refine va_get (D := D) (ci := 2) (v := .ref (ad 19)) (C := RX2) (T := TX2) (N := 12) hx hb hts hiX2 hown hK hP 13 rfl rfl 9 (by decide) lk40 (fun _ h9 => h9) rfl dX2_addErrand_9 ?_
    refine lv_aload_n hx hb dX2_addErrand_12 rfl (lv_at hl 0 rfl) ?_
    refine va_get (D := D) (ci := 2) (v := .int (f 13 3)) (C := RX2) (T := TX2) (N := 12) hx hb hts hiX2 hown hK hP 13 rfl rfl 3 (by decide) lk21 (fun _ h9 => h9) rfl dX2_addErrand_13 ?_
    refine lv_iload_n hx hb dX2_addErrand_16 rfl (lv_at hl 1 rfl) ?_
    obtain ⟨hin1, hf⟩ := gi_out hf
    obtain ⟨f2, ef2, hf⟩ := sq_out hf
    refine va_iast hx hb hK hP (dP hj f t) hS 19 1 rfl rfl hin1 dX2_addErrand_17 (fun H locs hP _ hS => ?_)
    have hP := sP_19 ef2 hP
    refine lv_aload_n hx hb dX2_addErrand_18 rfl (lv_at hl 0 rfl) ?_
    refine va_get (D := D) (ci := 2) (v := .ref (ad 20)) (C := RX2) (T := TX2) (N := 12) hx hb hts hiX2 hown hK hP 13 rfl rfl 10 (by decide) lk43 (fun _ h9 => h9) rfl dX2_addErrand_19 ?_
    refine lv_aload_n hx hb dX2_addErrand_22 rfl (lv_at hl 0 rfl) ?_
    refine va_get (D := D) (ci := 2) (v := .int (f2 13 3)) (C := RX2) (T := TX2) (N := 12) hx hb hts hiX2 hown hK hP 13 rfl rfl 3 (by decide) lk21 (fun _ h9 => h9) rfl dX2_addErrand_23 ?_
    refine lv_iload_n hx hb dX2_addErrand_26 rfl (lv_at hl 2 rfl) ?_
    obtain ⟨hin3, hf⟩ := gi_out hf
    obtain ⟨f4, ef4, hf⟩ := sq_out hf
    refine va_iast hx hb hK hP (dP hj f2 t) hS 20 1 rfl rfl hin3 dX2_addErrand_27 (fun H locs hP _ hS => ?_)
    have hP := sP_20 ef4 hP
    refine lv_aload_n hx hb dX2_addErrand_28 rfl (lv_at hl 0 rfl) ?_
    refine va_get (D := D) (ci := 2) (v := .ref (ad 21)) (C := RX2) (T := TX2) (N := 12) hx hb hts hiX2 hown hK hP 13 rfl rfl 11 (by decide) lk46 (fun _ h9 => h9) rfl dX2_addErrand_29 ?_
    refine lv_aload_n hx hb dX2_addErrand_32 rfl (lv_at hl 0 rfl) ?_
    refine va_get (D := D) (ci := 2) (v := .int (f4 13 3)) (C := RX2) (T := TX2) (N := 12) hx hb hts hiX2 hown hK hP 13 rfl rfl 3 (by decide) lk21 (fun _ h9 => h9) rfl dX2_addErrand_33 ?_
    refine lv_iload_n hx hb dX2_addErrand_36 rfl (lv_at hl 3 rfl) ?_
    obtain ⟨hin5, hf⟩ := gi_out hf
    obtain ⟨f6, ef6, hf⟩ := sq_out hf
    refine va_iast hx hb hK hP (dP hj f4 t) hS 21 1 rfl rfl hin5 dX2_addErrand_37 (fun H locs hP _ hS => ?_)
    have hP := sP_21 ef6 hP
    refine lv_aload_n hx hb dX2_addErrand_38 rfl (lv_at hl 0 rfl) ?_
    refine lv_dup hx hb dX2_addErrand_39 rfl ?_
    refine va_get (D := D) (ci := 2) (v := .int (f6 13 3)) (C := RX2) (T := TX2) (N := 12) hx hb hts hiX2 hown hK hP 13 rfl rfl 3 (by decide) lk21 (fun _ h9 => h9) rfl dX2_addErrand_40 ?_
    refine lv_iconst (v := 1) hx hb dX2_addErrand_43 (by decide) ?_
    refine lv_iadd hx hb dX2_addErrand_44 ?_
    obtain ⟨f7, ef7, hf⟩ := sq_out hf
    refine va_put (D := D) (ci := 2) (v := .int ((f6 13 3) + 1)) (ty := .int) (C := RX2) (T := TX2) (N := 12) hx hb hts hiX2 tyX2 tyX2_ok nmX2 hown hK hP (dP hj f6 t) hS 13 rfl rfl 3 (by decide) lk21 (fun _ h9 => h9) rfl (by decide +kernel) rfl rfl (Nat.le_of_ble_eq_true rfl) dX2_addErrand_45 (fun H locs hP _ hS => ?_)
    have hP := sP_13_3 ef7 hP
    obtain rfl := Option.some.inj hf
    exact kr H locs ls 48 dX2_addErrand_48 hP hS
set_option maxHeartbeats 4000000 in
set_option maxRecDepth 100000 in
theorem c_X2_addErrand (hj : jP ad) (l : Launch) (x1 : Int32) (x2 : Int32) (x3 : Int32) (f : mM) (t : Int64) (fR : mM) (hf : q_X2_addErrand x1 x2 x3 f = some fR) : Met l yX2_addErrand wsX2_addErrand ({ frames := 0, cells := 0, slots := 0, locals := 0 }) (va_Pc ([.ref (ad 13), .int x1, .int x2, .int x3]) (pre D cy (wP ad cy) (xP ad sk sv) f t)) (va_Qv (fun (u : mM × Int64) => u = (fR, t)) (atW D (wP ad cy)) (aP ad)) 0 0 (aP ad) := by
  refine Met.ofW (cc := cX2_addErrand) (maxL := 4) (ret := none) (by decide) rfl ?_
  intro p e s m args below meth c s₁ B hml hv
  obtain ⟨rfl, hP, hK, hX0⟩ := hv
  have hl := lv_entry ([.ref (ad 13), .int x1, .int x2, .int x3]) (n := 4) (Nat.le_of_ble_eq_true rfl)
  rw [lg_entry_eq]
  generalize (lg_sl ([.ref (ad 13), .int x1, .int x2, .int x3]) ++ List.replicate (4 - (lg_sl ([.ref (ad 13), .int x1, .int x2, .int x3])).length) Slot.unset).toArray = ls at hl ⊢
  have hlocks := B.notSynchronized
  exact b_X2_addErrand ⟨B.exec, B.bytes, B.returns, hml, findClass_of_methodNamed B.named, atoms_spec (ws := wsX2_addErrand) B.pre, hlocks, hK, hX0⟩ hj ⟨Nat.le_refl _, Nat.le_refl _⟩ x1 x2 x3 f t fR hf (fun H locs ls pc hd hP hS => W.vret B.exec B.bytes B.returns (fun t2 ht hW => ⟨⟨(fR, t), rfl, rfl, by show va_P D vwCl _ t2.heap; rw [ht]; exact hP⟩, hS.F ht⟩) hS.2.2 hd) s.heap [] ls hP va_S.rf hl
def q_X2_becomes (f : mM) : Option (mM) := sq (st2 f 3 0 (f 13 0)) (fun f1 => sq (st2 f1 3 1 (f1 13 1)) (fun f2 => sq (st2 f2 3 2 (f2 13 2)) (fun f3 => sq (st2 f3 3 3 (f3 13 3)) (fun f4 => sq (cp2 f4 14 4 9) (fun f5 => sq (cp2 f5 15 5 9) (fun f6 => sq (cp2 f6 16 6 9) (fun f7 => sq (cp2 f7 17 7 4) (fun f8 => sq (cp2 f8 18 8 4) (fun f9 => sq (cp2 f9 19 9 3) (fun f10 => sq (cp2 f10 20 10 3) (fun f11 => sq (cp2 f11 21 11 3) (fun f12 => some f12))))))))))))
set_option maxHeartbeats 4000000 in
set_option maxRecDepth 100000 in
theorem b_X2_becomes (C0 : cX p s m args meth c cX2_becomes 2 none RX2 wsX2_becomes D cy (xP ad sk sv)) (hj : jP ad) (hR : 1 ≤ R.frames ∧ 49 ≤ R.locals)  (f : mM) (t : Int64) (fR : mM) (hf : q_X2_becomes f = some fR) (kr : ∀ (H : Heap) (locs : List Loc) (ls : Array Slot) (pc : Nat), decode cX2_becomes pc = .ok (.return_, 1) → va_P D vwCl (wP ad cy fR t) H → va_S (aP ad) s.heap H locs → W p l e R s m args below meth c H locs 0 0 Q (F0 m pc ls [])) (H : Heap) (locs : List Loc) (ls : Array Slot) (hP : va_P D vwCl (wP ad cy f t) H) (hS : va_S (aP ad) s.heap H locs) (hl : lv_has ls 2 [(0, .ref (ad 3)), (1, .ref (ad 13))]) : W p l e R s m args below meth c H locs 0 0 Q (F0 m 0 ls []) := by
  obtain ⟨hx, hb, hr, hml, hown, hts, hlocks, hK, hX0⟩ := id C0
  have lk9 := hts (.fieldLink RX2 9 "PlankNine$Marsh" "places" "I") (List.mem_of_getElem? (i := 1) rfl)
  have hiX2 : ∀ w ∈ u_ws RX2 TX2 12, w ∈ wsX2_becomes := fun w h => List.mem_cons_of_mem _ (List.mem_append_right _ h)
  have lk15 := hts (.fieldLink RX2 15 "PlankNine$Marsh" "planks" "I") (List.mem_of_getElem? (i := 2) rfl)
  have lk18 := hts (.fieldLink RX2 18 "PlankNine$Marsh" "people" "I") (List.mem_of_getElem? (i := 3) rfl)
  have lk21 := hts (.fieldLink RX2 21 "PlankNine$Marsh" "errands" "I") (List.mem_of_getElem? (i := 4) rfl)
  have lk24 := hts (.fieldLink RX2 24 "PlankNine$Marsh" "endA" "[I") (List.mem_of_getElem? (i := 5) rfl)
  have lk28 := hts (.fieldLink RX2 28 "PlankNine$Marsh" "endB" "[I") (List.mem_of_getElem? (i := 10) rfl)
  have lk31 := hts (.fieldLink RX2 31 "PlankNine$Marsh" "toldToBear" "[I") (List.mem_of_getElem? (i := 11) rfl)
  have lk34 := hts (.fieldLink RX2 34 "PlankNine$Marsh" "weight" "[I") (List.mem_of_getElem? (i := 12) rfl)
  have lk37 := hts (.fieldLink RX2 37 "PlankNine$Marsh" "stride" "[I") (List.mem_of_getElem? (i := 13) rfl)
  have lk40 := hts (.fieldLink RX2 40 "PlankNine$Marsh" "who" "[I") (List.mem_of_getElem? (i := 14) rfl)
  have lk43 := hts (.fieldLink RX2 43 "PlankNine$Marsh" "from" "[I") (List.mem_of_getElem? (i := 15) rfl)
  have lk46 := hts (.fieldLink RX2 46 "PlankNine$Marsh" "to" "[I") (List.mem_of_getElem? (i := 16) rfl)
  unfold q_X2_becomes at hf
  refine lv_aload_n hx hb dX2_becomes_0 rfl (lv_at hl 0 rfl) ?_
  refine lv_aload_n hx hb dX2_becomes_1 rfl (lv_at hl 1 rfl) ?_
  refine va_get (D := D) (ci := 2) (v := .int (f 13 0)) (C := RX2) (T := TX2) (N := 12) hx hb hts hiX2 hown hK hP 13 rfl rfl 0 (by decide) lk9 (fun _ h9 => h9) rfl dX2_becomes_2 ?_
  obtain ⟨f1, ef1, hf⟩ := sq_out hf
  refine va_put (D := D) (ci := 2) (v := .int (f 13 0)) (ty := .int) (C := RX2) (T := TX2) (N := 12) hx hb hts hiX2 tyX2 tyX2_ok nmX2 hown hK hP (dP hj f t) hS 3 rfl rfl 0 (by decide) lk9 (fun _ h9 => h9) rfl (by decide +kernel) rfl rfl (Nat.le_of_ble_eq_true rfl) dX2_becomes_5 (fun H locs hP _ hS => ?_)
  have hP := sP_3_0 ef1 hP
  refine lv_aload_n hx hb dX2_becomes_8 rfl (lv_at hl 0 rfl) ?_
  refine lv_aload_n hx hb dX2_becomes_9 rfl (lv_at hl 1 rfl) ?_
  refine va_get (D := D) (ci := 2) (v := .int (f1 13 1)) (C := RX2) (T := TX2) (N := 12) hx hb hts hiX2 hown hK hP 13 rfl rfl 1 (by decide) lk15 (fun _ h9 => h9) rfl dX2_becomes_10 ?_
  obtain ⟨f2, ef2, hf⟩ := sq_out hf
  refine va_put (D := D) (ci := 2) (v := .int (f1 13 1)) (ty := .int) (C := RX2) (T := TX2) (N := 12) hx hb hts hiX2 tyX2 tyX2_ok nmX2 hown hK hP (dP hj f1 t) hS 3 rfl rfl 1 (by decide) lk15 (fun _ h9 => h9) rfl (by decide +kernel) rfl rfl (Nat.le_of_ble_eq_true rfl) dX2_becomes_13 (fun H locs hP _ hS => ?_)
  have hP := sP_3_1 ef2 hP
  refine lv_aload_n hx hb dX2_becomes_16 rfl (lv_at hl 0 rfl) ?_
  refine lv_aload_n hx hb dX2_becomes_17 rfl (lv_at hl 1 rfl) ?_
  refine va_get (D := D) (ci := 2) (v := .int (f2 13 2)) (C := RX2) (T := TX2) (N := 12) hx hb hts hiX2 hown hK hP 13 rfl rfl 2 (by decide) lk18 (fun _ h9 => h9) rfl dX2_becomes_18 ?_
  obtain ⟨f3, ef3, hf⟩ := sq_out hf
  refine va_put (D := D) (ci := 2) (v := .int (f2 13 2)) (ty := .int) (C := RX2) (T := TX2) (N := 12) hx hb hts hiX2 tyX2 tyX2_ok nmX2 hown hK hP (dP hj f2 t) hS 3 rfl rfl 2 (by decide) lk18 (fun _ h9 => h9) rfl (by decide +kernel) rfl rfl (Nat.le_of_ble_eq_true rfl) dX2_becomes_21 (fun H locs hP _ hS => ?_)
  have hP := sP_3_2 ef3 hP
  refine lv_aload_n hx hb dX2_becomes_24 rfl (lv_at hl 0 rfl) ?_
  refine lv_aload_n hx hb dX2_becomes_25 rfl (lv_at hl 1 rfl) ?_
  refine va_get (D := D) (ci := 2) (v := .int (f3 13 3)) (C := RX2) (T := TX2) (N := 12) hx hb hts hiX2 hown hK hP 13 rfl rfl 3 (by decide) lk21 (fun _ h9 => h9) rfl dX2_becomes_26 ?_
  obtain ⟨f4, ef4, hf⟩ := sq_out hf
  refine va_put (D := D) (ci := 2) (v := .int (f3 13 3)) (ty := .int) (C := RX2) (T := TX2) (N := 12) hx hb hts hiX2 tyX2 tyX2_ok nmX2 hown hK hP (dP hj f3 t) hS 3 rfl rfl 3 (by decide) lk21 (fun _ h9 => h9) rfl (by decide +kernel) rfl rfl (Nat.le_of_ble_eq_true rfl) dX2_becomes_29 (fun H locs hP _ hS => ?_)
  have hP := sP_3_3 ef4 hP
  refine lv_aload_n hx hb dX2_becomes_32 rfl (lv_at hl 1 rfl) ?_
  refine va_get (D := D) (ci := 2) (v := .ref (ad 14)) (C := RX2) (T := TX2) (N := 12) hx hb hts hiX2 hown hK hP 13 rfl rfl 4 (by decide) lk24 (fun _ h9 => h9) rfl dX2_becomes_33 ?_
  refine lv_iconst (v := 0) hx hb dX2_becomes_36 (by decide) ?_
  refine lv_aload_n hx hb dX2_becomes_37 rfl (lv_at hl 0 rfl) ?_
  refine va_get (D := D) (ci := 2) (v := .ref (ad 4)) (C := RX2) (T := TX2) (N := 12) hx hb hts hiX2 hown hK hP 3 rfl rfl 4 (by decide) lk24 (fun _ h9 => h9) rfl dX2_becomes_38 ?_
  refine lv_iconst (v := 0) hx hb dX2_becomes_41 (by decide) ?_
  refine lv_bipush (v := 9) hx hb dX2_becomes_42 (by decide) ?_
  obtain ⟨f5, ef5, hf⟩ := sq_out hf
  refine va_copyi hx hb (by rw [hml]; exact hl.1.symm) hown (hts (.methodLink RX2 49 arraycopyName) (by decide +kernel)) (hts (.native arraycopyName) (by decide +kernel)) (hts (.static arraycopyName) (by decide +kernel)) (hts (.initialized "java/lang/System") (by decide +kernel)) hK hP (dP hj f4 t) hS 14 4 1 1 rfl rfl rfl rfl rfl (by decide) (by decide) (by decide) (by decide) (by decide) (fun _ _ => rfl) (Nat.le_trans (by decide) hR.1) (Nat.le_trans (Nat.le_of_ble_eq_true rfl) hR.2) dX2_becomes_44 (fun H locs hP _ hS => ?_)
  have hP := sP_4 ef5 hP
  refine lv_aload_n hx hb dX2_becomes_47 rfl (lv_at hl 1 rfl) ?_
  refine va_get (D := D) (ci := 2) (v := .ref (ad 15)) (C := RX2) (T := TX2) (N := 12) hx hb hts hiX2 hown hK hP 13 rfl rfl 5 (by decide) lk28 (fun _ h9 => h9) rfl dX2_becomes_48 ?_
  refine lv_iconst (v := 0) hx hb dX2_becomes_51 (by decide) ?_
  refine lv_aload_n hx hb dX2_becomes_52 rfl (lv_at hl 0 rfl) ?_
  refine va_get (D := D) (ci := 2) (v := .ref (ad 5)) (C := RX2) (T := TX2) (N := 12) hx hb hts hiX2 hown hK hP 3 rfl rfl 5 (by decide) lk28 (fun _ h9 => h9) rfl dX2_becomes_53 ?_
  refine lv_iconst (v := 0) hx hb dX2_becomes_56 (by decide) ?_
  refine lv_bipush (v := 9) hx hb dX2_becomes_57 (by decide) ?_
  obtain ⟨f6, ef6, hf⟩ := sq_out hf
  refine va_copyi hx hb (by rw [hml]; exact hl.1.symm) hown (hts (.methodLink RX2 49 arraycopyName) (by decide +kernel)) (hts (.native arraycopyName) (by decide +kernel)) (hts (.static arraycopyName) (by decide +kernel)) (hts (.initialized "java/lang/System") (by decide +kernel)) hK hP (dP hj f5 t) hS 15 5 1 1 rfl rfl rfl rfl rfl (by decide) (by decide) (by decide) (by decide) (by decide) (fun _ _ => rfl) (Nat.le_trans (by decide) hR.1) (Nat.le_trans (Nat.le_of_ble_eq_true rfl) hR.2) dX2_becomes_59 (fun H locs hP _ hS => ?_)
  have hP := sP_5 ef6 hP
  refine lv_aload_n hx hb dX2_becomes_62 rfl (lv_at hl 1 rfl) ?_
  refine va_get (D := D) (ci := 2) (v := .ref (ad 16)) (C := RX2) (T := TX2) (N := 12) hx hb hts hiX2 hown hK hP 13 rfl rfl 6 (by decide) lk31 (fun _ h9 => h9) rfl dX2_becomes_63 ?_
  refine lv_iconst (v := 0) hx hb dX2_becomes_66 (by decide) ?_
  refine lv_aload_n hx hb dX2_becomes_67 rfl (lv_at hl 0 rfl) ?_
  refine va_get (D := D) (ci := 2) (v := .ref (ad 6)) (C := RX2) (T := TX2) (N := 12) hx hb hts hiX2 hown hK hP 3 rfl rfl 6 (by decide) lk31 (fun _ h9 => h9) rfl dX2_becomes_68 ?_
  refine lv_iconst (v := 0) hx hb dX2_becomes_71 (by decide) ?_
  refine lv_bipush (v := 9) hx hb dX2_becomes_72 (by decide) ?_
  obtain ⟨f7, ef7, hf⟩ := sq_out hf
  refine va_copyi hx hb (by rw [hml]; exact hl.1.symm) hown (hts (.methodLink RX2 49 arraycopyName) (by decide +kernel)) (hts (.native arraycopyName) (by decide +kernel)) (hts (.static arraycopyName) (by decide +kernel)) (hts (.initialized "java/lang/System") (by decide +kernel)) hK hP (dP hj f6 t) hS 16 6 1 1 rfl rfl rfl rfl rfl (by decide) (by decide) (by decide) (by decide) (by decide) (fun _ _ => rfl) (Nat.le_trans (by decide) hR.1) (Nat.le_trans (Nat.le_of_ble_eq_true rfl) hR.2) dX2_becomes_74 (fun H locs hP _ hS => ?_)
  have hP := sP_6 ef7 hP
  refine lv_aload_n hx hb dX2_becomes_77 rfl (lv_at hl 1 rfl) ?_
  refine va_get (D := D) (ci := 2) (v := .ref (ad 17)) (C := RX2) (T := TX2) (N := 12) hx hb hts hiX2 hown hK hP 13 rfl rfl 7 (by decide) lk34 (fun _ h9 => h9) rfl dX2_becomes_78 ?_
  refine lv_iconst (v := 0) hx hb dX2_becomes_81 (by decide) ?_
  refine lv_aload_n hx hb dX2_becomes_82 rfl (lv_at hl 0 rfl) ?_
  refine va_get (D := D) (ci := 2) (v := .ref (ad 7)) (C := RX2) (T := TX2) (N := 12) hx hb hts hiX2 hown hK hP 3 rfl rfl 7 (by decide) lk34 (fun _ h9 => h9) rfl dX2_becomes_83 ?_
  refine lv_iconst (v := 0) hx hb dX2_becomes_86 (by decide) ?_
  refine lv_iconst (v := 4) hx hb dX2_becomes_87 (by decide) ?_
  obtain ⟨f8, ef8, hf⟩ := sq_out hf
  refine va_copyi hx hb (by rw [hml]; exact hl.1.symm) hown (hts (.methodLink RX2 49 arraycopyName) (by decide +kernel)) (hts (.native arraycopyName) (by decide +kernel)) (hts (.static arraycopyName) (by decide +kernel)) (hts (.initialized "java/lang/System") (by decide +kernel)) hK hP (dP hj f7 t) hS 17 7 1 1 rfl rfl rfl rfl rfl (by decide) (by decide) (by decide) (by decide) (by decide) (fun _ _ => rfl) (Nat.le_trans (by decide) hR.1) (Nat.le_trans (Nat.le_of_ble_eq_true rfl) hR.2) dX2_becomes_88 (fun H locs hP _ hS => ?_)
  have hP := sP_7 ef8 hP
  refine lv_aload_n hx hb dX2_becomes_91 rfl (lv_at hl 1 rfl) ?_
  refine va_get (D := D) (ci := 2) (v := .ref (ad 18)) (C := RX2) (T := TX2) (N := 12) hx hb hts hiX2 hown hK hP 13 rfl rfl 8 (by decide) lk37 (fun _ h9 => h9) rfl dX2_becomes_92 ?_
  refine lv_iconst (v := 0) hx hb dX2_becomes_95 (by decide) ?_
  refine lv_aload_n hx hb dX2_becomes_96 rfl (lv_at hl 0 rfl) ?_
  refine va_get (D := D) (ci := 2) (v := .ref (ad 8)) (C := RX2) (T := TX2) (N := 12) hx hb hts hiX2 hown hK hP 3 rfl rfl 8 (by decide) lk37 (fun _ h9 => h9) rfl dX2_becomes_97 ?_
  refine lv_iconst (v := 0) hx hb dX2_becomes_100 (by decide) ?_
  refine lv_iconst (v := 4) hx hb dX2_becomes_101 (by decide) ?_
  obtain ⟨f9, ef9, hf⟩ := sq_out hf
  refine va_copyi hx hb (by rw [hml]; exact hl.1.symm) hown (hts (.methodLink RX2 49 arraycopyName) (by decide +kernel)) (hts (.native arraycopyName) (by decide +kernel)) (hts (.static arraycopyName) (by decide +kernel)) (hts (.initialized "java/lang/System") (by decide +kernel)) hK hP (dP hj f8 t) hS 18 8 1 1 rfl rfl rfl rfl rfl (by decide) (by decide) (by decide) (by decide) (by decide) (fun _ _ => rfl) (Nat.le_trans (by decide) hR.1) (Nat.le_trans (Nat.le_of_ble_eq_true rfl) hR.2) dX2_becomes_102 (fun H locs hP _ hS => ?_)
  have hP := sP_8 ef9 hP
  refine lv_aload_n hx hb dX2_becomes_105 rfl (lv_at hl 1 rfl) ?_
  refine va_get (D := D) (ci := 2) (v := .ref (ad 19)) (C := RX2) (T := TX2) (N := 12) hx hb hts hiX2 hown hK hP 13 rfl rfl 9 (by decide) lk40 (fun _ h9 => h9) rfl dX2_becomes_106 ?_
  refine lv_iconst (v := 0) hx hb dX2_becomes_109 (by decide) ?_
  refine lv_aload_n hx hb dX2_becomes_110 rfl (lv_at hl 0 rfl) ?_
  refine va_get (D := D) (ci := 2) (v := .ref (ad 9)) (C := RX2) (T := TX2) (N := 12) hx hb hts hiX2 hown hK hP 3 rfl rfl 9 (by decide) lk40 (fun _ h9 => h9) rfl dX2_becomes_111 ?_
  refine lv_iconst (v := 0) hx hb dX2_becomes_114 (by decide) ?_
  refine lv_iconst (v := 3) hx hb dX2_becomes_115 (by decide) ?_
  obtain ⟨f10, ef10, hf⟩ := sq_out hf
  refine va_copyi hx hb (by rw [hml]; exact hl.1.symm) hown (hts (.methodLink RX2 49 arraycopyName) (by decide +kernel)) (hts (.native arraycopyName) (by decide +kernel)) (hts (.static arraycopyName) (by decide +kernel)) (hts (.initialized "java/lang/System") (by decide +kernel)) hK hP (dP hj f9 t) hS 19 9 1 1 rfl rfl rfl rfl rfl (by decide) (by decide) (by decide) (by decide) (by decide) (fun _ _ => rfl) (Nat.le_trans (by decide) hR.1) (Nat.le_trans (Nat.le_of_ble_eq_true rfl) hR.2) dX2_becomes_116 (fun H locs hP _ hS => ?_)
  have hP := sP_9 ef10 hP
  refine lv_aload_n hx hb dX2_becomes_119 rfl (lv_at hl 1 rfl) ?_
  refine va_get (D := D) (ci := 2) (v := .ref (ad 20)) (C := RX2) (T := TX2) (N := 12) hx hb hts hiX2 hown hK hP 13 rfl rfl 10 (by decide) lk43 (fun _ h9 => h9) rfl dX2_becomes_120 ?_
  refine lv_iconst (v := 0) hx hb dX2_becomes_123 (by decide) ?_
  refine lv_aload_n hx hb dX2_becomes_124 rfl (lv_at hl 0 rfl) ?_
  refine va_get (D := D) (ci := 2) (v := .ref (ad 10)) (C := RX2) (T := TX2) (N := 12) hx hb hts hiX2 hown hK hP 3 rfl rfl 10 (by decide) lk43 (fun _ h9 => h9) rfl dX2_becomes_125 ?_
  refine lv_iconst (v := 0) hx hb dX2_becomes_128 (by decide) ?_
  refine lv_iconst (v := 3) hx hb dX2_becomes_129 (by decide) ?_
  obtain ⟨f11, ef11, hf⟩ := sq_out hf
  refine va_copyi hx hb (by rw [hml]; exact hl.1.symm) hown (hts (.methodLink RX2 49 arraycopyName) (by decide +kernel)) (hts (.native arraycopyName) (by decide +kernel)) (hts (.static arraycopyName) (by decide +kernel)) (hts (.initialized "java/lang/System") (by decide +kernel)) hK hP (dP hj f10 t) hS 20 10 1 1 rfl rfl rfl rfl rfl (by decide) (by decide) (by decide) (by decide) (by decide) (fun _ _ => rfl) (Nat.le_trans (by decide) hR.1) (Nat.le_trans (Nat.le_of_ble_eq_true rfl) hR.2) dX2_becomes_130 (fun H locs hP _ hS => ?_)
  have hP := sP_10 ef11 hP
  refine lv_aload_n hx hb dX2_becomes_133 rfl (lv_at hl 1 rfl) ?_
  refine va_get (D := D) (ci := 2) (v := .ref (ad 21)) (C := RX2) (T := TX2) (N := 12) hx hb hts hiX2 hown hK hP 13 rfl rfl 11 (by decide) lk46 (fun _ h9 => h9) rfl dX2_becomes_134 ?_
  refine lv_iconst (v := 0) hx hb dX2_becomes_137 (by decide) ?_
  refine lv_aload_n hx hb dX2_becomes_138 rfl (lv_at hl 0 rfl) ?_
  refine va_get (D := D) (ci := 2) (v := .ref (ad 11)) (C := RX2) (T := TX2) (N := 12) hx hb hts hiX2 hown hK hP 3 rfl rfl 11 (by decide) lk46 (fun _ h9 => h9) rfl dX2_becomes_139 ?_
  refine lv_iconst (v := 0) hx hb dX2_becomes_142 (by decide) ?_
  refine lv_iconst (v := 3) hx hb dX2_becomes_143 (by decide) ?_
  obtain ⟨f12, ef12, hf⟩ := sq_out hf
  refine va_copyi hx hb (by rw [hml]; exact hl.1.symm) hown (hts (.methodLink RX2 49 arraycopyName) (by decide +kernel)) (hts (.native arraycopyName) (by decide +kernel)) (hts (.static arraycopyName) (by decide +kernel)) (hts (.initialized "java/lang/System") (by decide +kernel)) hK hP (dP hj f11 t) hS 21 11 1 1 rfl rfl rfl rfl rfl (by decide) (by decide) (by decide) (by decide) (by decide) (fun _ _ => rfl) (Nat.le_trans (by decide) hR.1) (Nat.le_trans (Nat.le_of_ble_eq_true rfl) hR.2) dX2_becomes_144 (fun H locs hP _ hS => ?_)
  have hP := sP_11 ef12 hP
  obtain rfl := Option.some.inj hf
  exact kr H locs ls 147 dX2_becomes_147 hP hS
set_option maxHeartbeats 4000000 in
set_option maxRecDepth 100000 in
theorem c_X2_becomes (hj : jP ad) (l : Launch)  (f : mM) (t : Int64) (fR : mM) (hf : q_X2_becomes f = some fR) : Met l yX2_becomes wsX2_becomes ({ frames := 1, cells := 0, slots := 0, locals := 49 }) (va_Pc ([.ref (ad 3), .ref (ad 13)]) (pre D cy (wP ad cy) (xP ad sk sv) f t)) (va_Qv (fun (u : mM × Int64) => u = (fR, t)) (atW D (wP ad cy)) (aP ad)) 0 0 (aP ad) := by
  refine Met.ofW (cc := cX2_becomes) (maxL := 2) (ret := none) (by decide) rfl ?_
  intro p e s m args below meth c s₁ B hml hv
  obtain ⟨rfl, hP, hK, hX0⟩ := hv
  have hl := lv_entry ([.ref (ad 3), .ref (ad 13)]) (n := 2) (Nat.le_of_ble_eq_true rfl)
  rw [lg_entry_eq]
  generalize (lg_sl ([.ref (ad 3), .ref (ad 13)]) ++ List.replicate (2 - (lg_sl ([.ref (ad 3), .ref (ad 13)])).length) Slot.unset).toArray = ls at hl ⊢
  have hlocks := B.notSynchronized
  exact b_X2_becomes ⟨B.exec, B.bytes, B.returns, hml, findClass_of_methodNamed B.named, atoms_spec (ws := wsX2_becomes) B.pre, hlocks, hK, hX0⟩ hj ⟨Nat.le_refl _, Nat.le_refl _⟩  f t fR hf (fun H locs ls pc hd hP hS => W.vret B.exec B.bytes B.returns (fun t2 ht hW => ⟨⟨(fR, t), rfl, rfl, by show va_P D vwCl _ t2.heap; rw [ht]; exact hP⟩, hS.F ht⟩) hS.2.2 hd) s.heap [] ls hP va_S.rf hl
def q_X2_isPlank (x1 : Int32) (f : mM) : Option (Int32) := if x1 < 0 then rz 0 (some 0) else if (f 3 1) ≤ x1 then rz 0 (some 0) else rz 1 (some 1)
set_option maxHeartbeats 4000000 in
set_option maxRecDepth 100000 in
theorem b_X2_isPlank (C0 : cX p s m args meth c cX2_isPlank 2 (some .boolean) RX2 wsX2_isPlank D cy (xP ad sk sv)) (hj : jP ad) (hR : 0 ≤ R.frames ∧ 0 ≤ R.locals) (x1 : Int32) (f : mM) (t : Int64) (r : Int32) (hf : q_X2_isPlank x1 f = some r) (kr : ∀ (H : Heap) (locs : List Loc) (ls : Array Slot) (pc : Nat), decode cX2_isPlank pc = .ok (.ireturn, 1) → narrow .boolean (.int r) = .int r → va_P D vwCl (wP ad cy f t) H → va_S (aP ad) s.heap H locs → W p l e R s m args below meth c H locs 0 0 Q (F0 m pc ls [.int r])) (H : Heap) (locs : List Loc) (ls : Array Slot) (hP : va_P D vwCl (wP ad cy f t) H) (hS : va_S (aP ad) s.heap H locs) (hl : lv_has ls 2 [(0, .ref (ad 3)), (1, .int x1)]) : W p l e R s m args below meth c H locs 0 0 Q (F0 m 0 ls []) := by
  obtain ⟨hx, hb, hr, hml, hown, hts, hlocks, hK, hX0⟩ := id C0
  have lk15 := hts (.fieldLink RX2 15 "PlankNine$Marsh" "planks" "I") (List.mem_of_getElem? (i := 1) rfl)
  have hiX2 : ∀ w ∈ u_ws RX2 TX2 12, w ∈ wsX2_isPlank := fun w h => List.mem_cons_of_mem _ (List.mem_append_right _ h)
  unfold q_X2_isPlank at hf
  refine lv_iload_n hx hb dX2_isPlank_0 rfl (lv_at hl 1 rfl) ?_
  refine lv_if_lt (tgt := 16) hx hb dX2_isPlank_1 (by decide) (fun c1 => ?_) (fun c1 => ?_)
  · have hf := itT hf c1
    refine lv_iconst (v := 0) hx hb dX2_isPlank_16 (by decide) ?_
    obtain ⟨hz, hf⟩ := rz_out hf
    obtain rfl := Option.some.inj hf
    exact kr H locs ls 17 dX2_isPlank_17 hz hP hS
  · have hf := itF hf c1
    refine lv_iload_n hx hb dX2_isPlank_4 rfl (lv_at hl 1 rfl) ?_
    refine lv_aload_n hx hb dX2_isPlank_5 rfl (lv_at hl 0 rfl) ?_
    refine va_get (D := D) (ci := 2) (v := .int (f 3 1)) (C := RX2) (T := TX2) (N := 12) hx hb hts hiX2 hown hK hP 3 rfl rfl 1 (by decide) lk15 (fun _ h9 => h9) rfl dX2_isPlank_6 ?_
    refine lv_icmp_ge (tgt := 16) hx hb dX2_isPlank_9 (by decide) (fun c9 => ?_) (fun c9 => ?_)
    · have hf := itT hf c9
      refine lv_iconst (v := 0) hx hb dX2_isPlank_16 (by decide) ?_
      obtain ⟨hz, hf⟩ := rz_out hf
      obtain rfl := Option.some.inj hf
      exact kr H locs ls 17 dX2_isPlank_17 hz hP hS
    · have hf := itF hf c9
      refine lv_iconst (v := 1) hx hb dX2_isPlank_12 (by decide) ?_
      refine lv_goto (tgt := 17) hx hb dX2_isPlank_13 (by decide) ?_
      obtain ⟨hz, hf⟩ := rz_out hf
      obtain rfl := Option.some.inj hf
      exact kr H locs ls 17 dX2_isPlank_17 hz hP hS
set_option maxHeartbeats 4000000 in
set_option maxRecDepth 100000 in
theorem c_X2_isPlank (hj : jP ad) (l : Launch) (x1 : Int32) (f : mM) (t : Int64) (r : Int32) (hf : q_X2_isPlank x1 f = some r) : Met l yX2_isPlank wsX2_isPlank ({ frames := 0, cells := 0, slots := 0, locals := 0 }) (va_Pc ([.ref (ad 3), .int x1]) (pre D cy (wP ad cy) (xP ad sk sv) f t)) (va_Qi (fun (r2 : Int32) (u : mM × Int64) => r2 = r ∧ u = (f, t)) (atW D (wP ad cy)) (aP ad)) 0 0 (aP ad) := by
  refine Met.ofW (cc := cX2_isPlank) (maxL := 2) (ret := (some .boolean)) (by decide) rfl ?_
  intro p e s m args below meth c s₁ B hml hv
  obtain ⟨rfl, hP, hK, hX0⟩ := hv
  have hl := lv_entry ([.ref (ad 3), .int x1]) (n := 2) (Nat.le_of_ble_eq_true rfl)
  rw [lg_entry_eq]
  generalize (lg_sl ([.ref (ad 3), .int x1]) ++ List.replicate (2 - (lg_sl ([.ref (ad 3), .int x1])).length) Slot.unset).toArray = ls at hl ⊢
  have hlocks := B.notSynchronized
  exact b_X2_isPlank ⟨B.exec, B.bytes, B.returns, hml, findClass_of_methodNamed B.named, atoms_spec (ws := wsX2_isPlank) B.pre, hlocks, hK, hX0⟩ hj ⟨Nat.le_refl _, Nat.le_refl _⟩ x1 f t r hf (fun H locs ls pc hd hz hP hS => W.zret B.exec B.bytes B.returns hz (fun t2 ht hW => ⟨⟨r, (f, t), rfl, ⟨rfl, rfl⟩, by show va_P D vwCl _ t2.heap; rw [ht]; exact hP⟩, hS.F ht⟩) hS.2.2 hd) s.heap [] ls hP va_S.rf hl
def q_X2_isPerson (x1 : Int32) (f : mM) : Option (Int32) := if x1 < 0 then rz 0 (some 0) else if (f 3 2) ≤ x1 then rz 0 (some 0) else rz 1 (some 1)
set_option maxHeartbeats 4000000 in
set_option maxRecDepth 100000 in
theorem b_X2_isPerson (C0 : cX p s m args meth c cX2_isPerson 2 (some .boolean) RX2 wsX2_isPerson D cy (xP ad sk sv)) (hj : jP ad) (hR : 0 ≤ R.frames ∧ 0 ≤ R.locals) (x1 : Int32) (f : mM) (t : Int64) (r : Int32) (hf : q_X2_isPerson x1 f = some r) (kr : ∀ (H : Heap) (locs : List Loc) (ls : Array Slot) (pc : Nat), decode cX2_isPerson pc = .ok (.ireturn, 1) → narrow .boolean (.int r) = .int r → va_P D vwCl (wP ad cy f t) H → va_S (aP ad) s.heap H locs → W p l e R s m args below meth c H locs 0 0 Q (F0 m pc ls [.int r])) (H : Heap) (locs : List Loc) (ls : Array Slot) (hP : va_P D vwCl (wP ad cy f t) H) (hS : va_S (aP ad) s.heap H locs) (hl : lv_has ls 2 [(0, .ref (ad 3)), (1, .int x1)]) : W p l e R s m args below meth c H locs 0 0 Q (F0 m 0 ls []) := by
  obtain ⟨hx, hb, hr, hml, hown, hts, hlocks, hK, hX0⟩ := id C0
  have lk18 := hts (.fieldLink RX2 18 "PlankNine$Marsh" "people" "I") (List.mem_of_getElem? (i := 1) rfl)
  have hiX2 : ∀ w ∈ u_ws RX2 TX2 12, w ∈ wsX2_isPerson := fun w h => List.mem_cons_of_mem _ (List.mem_append_right _ h)
  unfold q_X2_isPerson at hf
  refine lv_iload_n hx hb dX2_isPerson_0 rfl (lv_at hl 1 rfl) ?_
  refine lv_if_lt (tgt := 16) hx hb dX2_isPerson_1 (by decide) (fun c1 => ?_) (fun c1 => ?_)
  · have hf := itT hf c1
    refine lv_iconst (v := 0) hx hb dX2_isPerson_16 (by decide) ?_
    obtain ⟨hz, hf⟩ := rz_out hf
    obtain rfl := Option.some.inj hf
    exact kr H locs ls 17 dX2_isPerson_17 hz hP hS
  · have hf := itF hf c1
    refine lv_iload_n hx hb dX2_isPerson_4 rfl (lv_at hl 1 rfl) ?_
    refine lv_aload_n hx hb dX2_isPerson_5 rfl (lv_at hl 0 rfl) ?_
    refine va_get (D := D) (ci := 2) (v := .int (f 3 2)) (C := RX2) (T := TX2) (N := 12) hx hb hts hiX2 hown hK hP 3 rfl rfl 2 (by decide) lk18 (fun _ h9 => h9) rfl dX2_isPerson_6 ?_
    refine lv_icmp_ge (tgt := 16) hx hb dX2_isPerson_9 (by decide) (fun c9 => ?_) (fun c9 => ?_)
    · have hf := itT hf c9
      refine lv_iconst (v := 0) hx hb dX2_isPerson_16 (by decide) ?_
      obtain ⟨hz, hf⟩ := rz_out hf
      obtain rfl := Option.some.inj hf
      exact kr H locs ls 17 dX2_isPerson_17 hz hP hS
    · have hf := itF hf c9
      refine lv_iconst (v := 1) hx hb dX2_isPerson_12 (by decide) ?_
      refine lv_goto (tgt := 17) hx hb dX2_isPerson_13 (by decide) ?_
      obtain ⟨hz, hf⟩ := rz_out hf
      obtain rfl := Option.some.inj hf
      exact kr H locs ls 17 dX2_isPerson_17 hz hP hS
set_option maxHeartbeats 4000000 in
set_option maxRecDepth 100000 in
theorem c_X2_isPerson (hj : jP ad) (l : Launch) (x1 : Int32) (f : mM) (t : Int64) (r : Int32) (hf : q_X2_isPerson x1 f = some r) : Met l yX2_isPerson wsX2_isPerson ({ frames := 0, cells := 0, slots := 0, locals := 0 }) (va_Pc ([.ref (ad 3), .int x1]) (pre D cy (wP ad cy) (xP ad sk sv) f t)) (va_Qi (fun (r2 : Int32) (u : mM × Int64) => r2 = r ∧ u = (f, t)) (atW D (wP ad cy)) (aP ad)) 0 0 (aP ad) := by
  refine Met.ofW (cc := cX2_isPerson) (maxL := 2) (ret := (some .boolean)) (by decide) rfl ?_
  intro p e s m args below meth c s₁ B hml hv
  obtain ⟨rfl, hP, hK, hX0⟩ := hv
  have hl := lv_entry ([.ref (ad 3), .int x1]) (n := 2) (Nat.le_of_ble_eq_true rfl)
  rw [lg_entry_eq]
  generalize (lg_sl ([.ref (ad 3), .int x1]) ++ List.replicate (2 - (lg_sl ([.ref (ad 3), .int x1])).length) Slot.unset).toArray = ls at hl ⊢
  have hlocks := B.notSynchronized
  exact b_X2_isPerson ⟨B.exec, B.bytes, B.returns, hml, findClass_of_methodNamed B.named, atoms_spec (ws := wsX2_isPerson) B.pre, hlocks, hK, hX0⟩ hj ⟨Nat.le_refl _, Nat.le_refl _⟩ x1 f t r hf (fun H locs ls pc hd hz hP hS => W.zret B.exec B.bytes B.returns hz (fun t2 ht hW => ⟨⟨r, (f, t), rfl, ⟨rfl, rfl⟩, by show va_P D vwCl _ t2.heap; rw [ht]; exact hP⟩, hS.F ht⟩) hS.2.2 hd) s.heap [] ls hP va_S.rf hl
def q_X2_isErrand (x1 : Int32) (f : mM) : Option (Int32) := if x1 < 0 then rz 0 (some 0) else if (f 3 3) ≤ x1 then rz 0 (some 0) else rz 1 (some 1)
set_option maxHeartbeats 4000000 in
set_option maxRecDepth 100000 in
theorem b_X2_isErrand (C0 : cX p s m args meth c cX2_isErrand 2 (some .boolean) RX2 wsX2_isErrand D cy (xP ad sk sv)) (hj : jP ad) (hR : 0 ≤ R.frames ∧ 0 ≤ R.locals) (x1 : Int32) (f : mM) (t : Int64) (r : Int32) (hf : q_X2_isErrand x1 f = some r) (kr : ∀ (H : Heap) (locs : List Loc) (ls : Array Slot) (pc : Nat), decode cX2_isErrand pc = .ok (.ireturn, 1) → narrow .boolean (.int r) = .int r → va_P D vwCl (wP ad cy f t) H → va_S (aP ad) s.heap H locs → W p l e R s m args below meth c H locs 0 0 Q (F0 m pc ls [.int r])) (H : Heap) (locs : List Loc) (ls : Array Slot) (hP : va_P D vwCl (wP ad cy f t) H) (hS : va_S (aP ad) s.heap H locs) (hl : lv_has ls 2 [(0, .ref (ad 3)), (1, .int x1)]) : W p l e R s m args below meth c H locs 0 0 Q (F0 m 0 ls []) := by
  obtain ⟨hx, hb, hr, hml, hown, hts, hlocks, hK, hX0⟩ := id C0
  have lk21 := hts (.fieldLink RX2 21 "PlankNine$Marsh" "errands" "I") (List.mem_of_getElem? (i := 1) rfl)
  have hiX2 : ∀ w ∈ u_ws RX2 TX2 12, w ∈ wsX2_isErrand := fun w h => List.mem_cons_of_mem _ (List.mem_append_right _ h)
  unfold q_X2_isErrand at hf
  refine lv_iload_n hx hb dX2_isErrand_0 rfl (lv_at hl 1 rfl) ?_
  refine lv_if_lt (tgt := 16) hx hb dX2_isErrand_1 (by decide) (fun c1 => ?_) (fun c1 => ?_)
  · have hf := itT hf c1
    refine lv_iconst (v := 0) hx hb dX2_isErrand_16 (by decide) ?_
    obtain ⟨hz, hf⟩ := rz_out hf
    obtain rfl := Option.some.inj hf
    exact kr H locs ls 17 dX2_isErrand_17 hz hP hS
  · have hf := itF hf c1
    refine lv_iload_n hx hb dX2_isErrand_4 rfl (lv_at hl 1 rfl) ?_
    refine lv_aload_n hx hb dX2_isErrand_5 rfl (lv_at hl 0 rfl) ?_
    refine va_get (D := D) (ci := 2) (v := .int (f 3 3)) (C := RX2) (T := TX2) (N := 12) hx hb hts hiX2 hown hK hP 3 rfl rfl 3 (by decide) lk21 (fun _ h9 => h9) rfl dX2_isErrand_6 ?_
    refine lv_icmp_ge (tgt := 16) hx hb dX2_isErrand_9 (by decide) (fun c9 => ?_) (fun c9 => ?_)
    · have hf := itT hf c9
      refine lv_iconst (v := 0) hx hb dX2_isErrand_16 (by decide) ?_
      obtain ⟨hz, hf⟩ := rz_out hf
      obtain rfl := Option.some.inj hf
      exact kr H locs ls 17 dX2_isErrand_17 hz hP hS
    · have hf := itF hf c9
      refine lv_iconst (v := 1) hx hb dX2_isErrand_12 (by decide) ?_
      refine lv_goto (tgt := 17) hx hb dX2_isErrand_13 (by decide) ?_
      obtain ⟨hz, hf⟩ := rz_out hf
      obtain rfl := Option.some.inj hf
      exact kr H locs ls 17 dX2_isErrand_17 hz hP hS
set_option maxHeartbeats 4000000 in
set_option maxRecDepth 100000 in
theorem c_X2_isErrand (hj : jP ad) (l : Launch) (x1 : Int32) (f : mM) (t : Int64) (r : Int32) (hf : q_X2_isErrand x1 f = some r) : Met l yX2_isErrand wsX2_isErrand ({ frames := 0, cells := 0, slots := 0, locals := 0 }) (va_Pc ([.ref (ad 3), .int x1]) (pre D cy (wP ad cy) (xP ad sk sv) f t)) (va_Qi (fun (r2 : Int32) (u : mM × Int64) => r2 = r ∧ u = (f, t)) (atW D (wP ad cy)) (aP ad)) 0 0 (aP ad) := by
  refine Met.ofW (cc := cX2_isErrand) (maxL := 2) (ret := (some .boolean)) (by decide) rfl ?_
  intro p e s m args below meth c s₁ B hml hv
  obtain ⟨rfl, hP, hK, hX0⟩ := hv
  have hl := lv_entry ([.ref (ad 3), .int x1]) (n := 2) (Nat.le_of_ble_eq_true rfl)
  rw [lg_entry_eq]
  generalize (lg_sl ([.ref (ad 3), .int x1]) ++ List.replicate (2 - (lg_sl ([.ref (ad 3), .int x1])).length) Slot.unset).toArray = ls at hl ⊢
  have hlocks := B.notSynchronized
  exact b_X2_isErrand ⟨B.exec, B.bytes, B.returns, hml, findClass_of_methodNamed B.named, atoms_spec (ws := wsX2_isErrand) B.pre, hlocks, hK, hX0⟩ hj ⟨Nat.le_refl _, Nat.le_refl _⟩ x1 f t r hf (fun H locs ls pc hd hz hP hS => W.zret B.exec B.bytes B.returns hz (fun t2 ht hW => ⟨⟨r, (f, t), rfl, ⟨rfl, rfl⟩, by show va_P D vwCl _ t2.heap; rw [ht]; exact hP⟩, hS.F ht⟩) hS.2.2 hd) s.heap [] ls hP va_S.rf hl
def q_X2_areTwoPlaces (x1 : Int32) (x2 : Int32) (f : mM) : Option (Int32) := if x1 < 0 then rz 0 (some 0) else if (f 3 0) ≤ x1 then rz 0 (some 0) else if x2 < 0 then rz 0 (some 0) else if (f 3 0) ≤ x2 then rz 0 (some 0) else if x1 = x2 then rz 0 (some 0) else rz 1 (some 1)
set_option maxHeartbeats 4000000 in
set_option maxRecDepth 100000 in
theorem b_X2_areTwoPlaces (C0 : cX p s m args meth c cX2_areTwoPlaces 3 (some .boolean) RX2 wsX2_areTwoPlaces D cy (xP ad sk sv)) (hj : jP ad) (hR : 0 ≤ R.frames ∧ 0 ≤ R.locals) (x1 : Int32) (x2 : Int32) (f : mM) (t : Int64) (r : Int32) (hf : q_X2_areTwoPlaces x1 x2 f = some r) (kr : ∀ (H : Heap) (locs : List Loc) (ls : Array Slot) (pc : Nat), decode cX2_areTwoPlaces pc = .ok (.ireturn, 1) → narrow .boolean (.int r) = .int r → va_P D vwCl (wP ad cy f t) H → va_S (aP ad) s.heap H locs → W p l e R s m args below meth c H locs 0 0 Q (F0 m pc ls [.int r])) (H : Heap) (locs : List Loc) (ls : Array Slot) (hP : va_P D vwCl (wP ad cy f t) H) (hS : va_S (aP ad) s.heap H locs) (hl : lv_has ls 3 [(0, .ref (ad 3)), (1, .int x1), (2, .int x2)]) : W p l e R s m args below meth c H locs 0 0 Q (F0 m 0 ls []) := by
  obtain ⟨hx, hb, hr, hml, hown, hts, hlocks, hK, hX0⟩ := id C0
  have lk9 := hts (.fieldLink RX2 9 "PlankNine$Marsh" "places" "I") (List.mem_of_getElem? (i := 1) rfl)
  have hiX2 : ∀ w ∈ u_ws RX2 TX2 12, w ∈ wsX2_areTwoPlaces := fun w h => List.mem_cons_of_mem _ (List.mem_append_right _ h)
  unfold q_X2_areTwoPlaces at hf
  refine lv_iload_n hx hb dX2_areTwoPlaces_0 rfl (lv_at hl 1 rfl) ?_
  refine lv_if_lt (tgt := 33) hx hb dX2_areTwoPlaces_1 (by decide) (fun c1 => ?_) (fun c1 => ?_)
  · have hf := itT hf c1
    refine lv_iconst (v := 0) hx hb dX2_areTwoPlaces_33 (by decide) ?_
    obtain ⟨hz, hf⟩ := rz_out hf
    obtain rfl := Option.some.inj hf
    exact kr H locs ls 34 dX2_areTwoPlaces_34 hz hP hS
  · have hf := itF hf c1
    refine lv_iload_n hx hb dX2_areTwoPlaces_4 rfl (lv_at hl 1 rfl) ?_
    refine lv_aload_n hx hb dX2_areTwoPlaces_5 rfl (lv_at hl 0 rfl) ?_
    refine va_get (D := D) (ci := 2) (v := .int (f 3 0)) (C := RX2) (T := TX2) (N := 12) hx hb hts hiX2 hown hK hP 3 rfl rfl 0 (by decide) lk9 (fun _ h9 => h9) rfl dX2_areTwoPlaces_6 ?_
    refine lv_icmp_ge (tgt := 33) hx hb dX2_areTwoPlaces_9 (by decide) (fun c9 => ?_) (fun c9 => ?_)
    · have hf := itT hf c9
      refine lv_iconst (v := 0) hx hb dX2_areTwoPlaces_33 (by decide) ?_
      obtain ⟨hz, hf⟩ := rz_out hf
      obtain rfl := Option.some.inj hf
      exact kr H locs ls 34 dX2_areTwoPlaces_34 hz hP hS
    · have hf := itF hf c9
      refine lv_iload_n hx hb dX2_areTwoPlaces_12 rfl (lv_at hl 2 rfl) ?_
      refine lv_if_lt (tgt := 33) hx hb dX2_areTwoPlaces_13 (by decide) (fun c13 => ?_) (fun c13 => ?_)
      · have hf := itT hf c13
        refine lv_iconst (v := 0) hx hb dX2_areTwoPlaces_33 (by decide) ?_
        obtain ⟨hz, hf⟩ := rz_out hf
        obtain rfl := Option.some.inj hf
        exact kr H locs ls 34 dX2_areTwoPlaces_34 hz hP hS
      · have hf := itF hf c13
        refine lv_iload_n hx hb dX2_areTwoPlaces_16 rfl (lv_at hl 2 rfl) ?_
        refine lv_aload_n hx hb dX2_areTwoPlaces_17 rfl (lv_at hl 0 rfl) ?_
        refine va_get (D := D) (ci := 2) (v := .int (f 3 0)) (C := RX2) (T := TX2) (N := 12) hx hb hts hiX2 hown hK hP 3 rfl rfl 0 (by decide) lk9 (fun _ h9 => h9) rfl dX2_areTwoPlaces_18 ?_
        refine lv_icmp_ge (tgt := 33) hx hb dX2_areTwoPlaces_21 (by decide) (fun c21 => ?_) (fun c21 => ?_)
        · have hf := itT hf c21
          refine lv_iconst (v := 0) hx hb dX2_areTwoPlaces_33 (by decide) ?_
          obtain ⟨hz, hf⟩ := rz_out hf
          obtain rfl := Option.some.inj hf
          exact kr H locs ls 34 dX2_areTwoPlaces_34 hz hP hS
        · have hf := itF hf c21
          refine lv_iload_n hx hb dX2_areTwoPlaces_24 rfl (lv_at hl 1 rfl) ?_
          refine lv_iload_n hx hb dX2_areTwoPlaces_25 rfl (lv_at hl 2 rfl) ?_
          refine lv_icmp_eq (tgt := 33) hx hb dX2_areTwoPlaces_26 (by decide) (fun c26 => ?_) (fun c26 => ?_)
          · have hf := itT hf c26
            refine lv_iconst (v := 0) hx hb dX2_areTwoPlaces_33 (by decide) ?_
            obtain ⟨hz, hf⟩ := rz_out hf
            obtain rfl := Option.some.inj hf
            exact kr H locs ls 34 dX2_areTwoPlaces_34 hz hP hS
          · have hf := itF hf c26
            refine lv_iconst (v := 1) hx hb dX2_areTwoPlaces_29 (by decide) ?_
            refine lv_goto (tgt := 34) hx hb dX2_areTwoPlaces_30 (by decide) ?_
            obtain ⟨hz, hf⟩ := rz_out hf
            obtain rfl := Option.some.inj hf
            exact kr H locs ls 34 dX2_areTwoPlaces_34 hz hP hS
set_option maxHeartbeats 4000000 in
set_option maxRecDepth 100000 in
theorem c_X2_areTwoPlaces (hj : jP ad) (l : Launch) (x1 : Int32) (x2 : Int32) (f : mM) (t : Int64) (r : Int32) (hf : q_X2_areTwoPlaces x1 x2 f = some r) : Met l yX2_areTwoPlaces wsX2_areTwoPlaces ({ frames := 0, cells := 0, slots := 0, locals := 0 }) (va_Pc ([.ref (ad 3), .int x1, .int x2]) (pre D cy (wP ad cy) (xP ad sk sv) f t)) (va_Qi (fun (r2 : Int32) (u : mM × Int64) => r2 = r ∧ u = (f, t)) (atW D (wP ad cy)) (aP ad)) 0 0 (aP ad) := by
  refine Met.ofW (cc := cX2_areTwoPlaces) (maxL := 3) (ret := (some .boolean)) (by decide) rfl ?_
  intro p e s m args below meth c s₁ B hml hv
  obtain ⟨rfl, hP, hK, hX0⟩ := hv
  have hl := lv_entry ([.ref (ad 3), .int x1, .int x2]) (n := 3) (Nat.le_of_ble_eq_true rfl)
  rw [lg_entry_eq]
  generalize (lg_sl ([.ref (ad 3), .int x1, .int x2]) ++ List.replicate (3 - (lg_sl ([.ref (ad 3), .int x1, .int x2])).length) Slot.unset).toArray = ls at hl ⊢
  have hlocks := B.notSynchronized
  exact b_X2_areTwoPlaces ⟨B.exec, B.bytes, B.returns, hml, findClass_of_methodNamed B.named, atoms_spec (ws := wsX2_areTwoPlaces) B.pre, hlocks, hK, hX0⟩ hj ⟨Nat.le_refl _, Nat.le_refl _⟩ x1 x2 f t r hf (fun H locs ls pc hd hz hP hS => W.zret B.exec B.bytes B.returns hz (fun t2 ht hW => ⟨⟨r, (f, t), rfl, ⟨rfl, rfl⟩, by show va_P D vwCl _ t2.heap; rw [ht]; exact hP⟩, hS.F ht⟩) hS.2.2 hd) s.heap [] ls hP va_S.rf hl
def q_X2_across (x1 : Int32) (x2 : Int32) (x3 : Int32) (f : mM) : Option (Int32) := gi x1 9 (sq (fun (v2 : Int32) => gi x1 9 (sq (fun (v5 : Int32) => if v5 = 0 then some (-1) else bi (q_X9_isIn x3 v2) (fun y7 => if y7 = 0 then some v2 else some (-1))) (fun k6 => if (f 4 (Int32.toNatClampNeg x1)) = x2 then k6 1 else gi x1 9 (if (f 5 (Int32.toNatClampNeg x1)) = x2 then k6 1 else k6 0)))) (fun k3 => if (f 4 (Int32.toNatClampNeg x1)) = x2 then gi x1 9 (k3 (f 5 (Int32.toNatClampNeg x1))) else gi x1 9 (k3 (f 4 (Int32.toNatClampNeg x1)))))
set_option maxHeartbeats 4000000 in
set_option maxRecDepth 100000 in
theorem b_X2_across (C0 : cX p s m args meth c cX2_across 6 (some .int) RX2 wsX2_across D cy (xP ad sk sv)) (hj : jP ad) (hR : 1 ≤ R.frames ∧ 21 ≤ R.locals) (x1 : Int32) (x2 : Int32) (x3 : Int32) (f : mM) (t : Int64) (r : Int32) (hf : q_X2_across x1 x2 x3 f = some r) (kr : ∀ (H : Heap) (locs : List Loc) (ls : Array Slot) (pc : Nat), decode cX2_across pc = .ok (.ireturn, 1) → va_P D vwCl (wP ad cy f t) H → va_S (aP ad) s.heap H locs → W p l e R s m args below meth c H locs 0 0 Q (F0 m pc ls [.int r])) (H : Heap) (locs : List Loc) (ls : Array Slot) (hP : va_P D vwCl (wP ad cy f t) H) (hS : va_S (aP ad) s.heap H locs) (hl : lv_has ls 6 [(0, .ref (ad 3)), (1, .int x1), (2, .int x2), (3, .int x3)]) : W p l e R s m args below meth c H locs 0 0 Q (F0 m 0 ls []) := by
  obtain ⟨hx, hb, hr, hml, hown, hts, hlocks, hK, hX0⟩ := id C0
  have lk24 := hts (.fieldLink RX2 24 "PlankNine$Marsh" "endA" "[I") (List.mem_of_getElem? (i := 1) rfl)
  have hiX2 : ∀ w ∈ u_ws RX2 TX2 12, w ∈ wsX2_across := fun w h => List.mem_cons_of_mem _ (List.mem_append_right _ h)
  have lk28 := hts (.fieldLink RX2 28 "PlankNine$Marsh" "endB" "[I") (List.mem_of_getElem? (i := 2) rfl)
  unfold q_X2_across at hf
  refine lv_aload_n hx hb dX2_across_0 rfl (lv_at hl 0 rfl) ?_
  refine va_get (D := D) (ci := 2) (v := .ref (ad 4)) (C := RX2) (T := TX2) (N := 12) hx hb hts hiX2 hown hK hP 3 rfl rfl 4 (by decide) lk24 (fun _ h9 => h9) rfl dX2_across_1 ?_
  refine lv_iload_n hx hb dX2_across_4 rfl (lv_at hl 1 rfl) ?_
  obtain ⟨hin1, hf⟩ := gi_out hf
  refine va_iald hx hb hK hP 4 1 rfl rfl hin1 dX2_across_5 ?_
  refine lv_iload_n hx hb dX2_across_6 rfl (lv_at hl 2 rfl) ?_
  obtain ⟨k3, ek3, hf⟩ := sq_out hf
  have hk3 : ∀ (v2 : Int32), k3 v2 = some r → ∀ (H : Heap) (locs : List Loc) (ls : Array Slot), va_P D vwCl (wP ad cy f t) H → va_S (aP ad) s.heap H locs → lv_has ls 6 [(0, .ref (ad 3)), (1, .int x1), (2, .int x2), (3, .int x3)] → W p l e R s m args below meth c H locs 0 0 Q (F0 m 25 ls [.int v2]) := by
    intro v2 hf H locs ls hP hS hl
    have hf := sk1 ek3 v2 hf
    refine lv_istore (lv' := [(4, .int v2), (0, .ref (ad 3)), (1, .int x1), (2, .int x2), (3, .int x3)]) hx hb dX2_across_25 hl (by decide) rfl (fun ls hl => ?_)
    refine lv_aload_n hx hb dX2_across_27 rfl (lv_at hl 1 rfl) ?_
    refine va_get (D := D) (ci := 2) (v := .ref (ad 4)) (C := RX2) (T := TX2) (N := 12) hx hb hts hiX2 hown hK hP 3 rfl rfl 4 (by decide) lk24 (fun _ h9 => h9) rfl dX2_across_28 ?_
    refine lv_iload_n hx hb dX2_across_31 rfl (lv_at hl 2 rfl) ?_
    obtain ⟨hin4, hf⟩ := gi_out hf
    refine va_iald hx hb hK hP 4 1 rfl rfl hin4 dX2_across_32 ?_
    refine lv_iload_n hx hb dX2_across_33 rfl (lv_at hl 3 rfl) ?_
    obtain ⟨k6, ek6, hf⟩ := sq_out hf
    have hk6 : ∀ (v5 : Int32), k6 v5 = some r → ∀ (H : Heap) (locs : List Loc) (ls : Array Slot), va_P D vwCl (wP ad cy f t) H → va_S (aP ad) s.heap H locs → lv_has ls 6 [(3, .int x3), (4, .int v2)] → W p l e R s m args below meth c H locs 0 0 Q (F0 m 52 ls [.int v5]) := by
      intro v5 hf H locs ls hP hS hl
      have hf := sk1 ek6 v5 hf
      refine lv_istore (lv' := [(5, .int v5), (3, .int x3), (4, .int v2)]) hx hb dX2_across_52 hl (by decide) rfl (fun ls hl => ?_)
      refine lv_iload hx hb dX2_across_54 (lv_at hl 0 rfl) ?_
      refine lv_if_eq (tgt := 73) hx hb dX2_across_56 (by decide) (fun c56 => ?_) (fun c56 => ?_)
      · have hf := itT hf c56
        refine lv_iconst (v := (-1)) hx hb dX2_across_73 (by decide) ?_
        obtain rfl := Option.some.inj hf
        exact kr H locs ls 74 dX2_across_74 hP hS
      · have hf := itF hf c56
        refine lv_iload_n hx hb dX2_across_59 rfl (lv_at hl 1 rfl) ?_
        refine lv_iload hx hb dX2_across_60 (lv_at hl 2 rfl) ?_
        obtain ⟨y7, hq8, hf⟩ := bi_out hf
        refine cw_ni (As := [.int x3, .int v2]) (rest := []) ⟨hx, hb, hml, hown, hts⟩ xP_S hK hX0 hS hP (c_X9_isIn hj l x3 v2 f t y7 hq8) ⟨va_cnB 2 hts gX2_across_X9_isIn_n55 rfl rfl rfl (nlM_5 hX0) (hts (.initialized RX9) (List.mem_of_getElem? (i := 4) rfl)) (by decide +kernel) ⟨Nat.le_trans (Nat.le_of_ble_eq_true rfl) hR.1, Nat.le_trans (Nat.le_of_ble_eq_true rfl) hR.2⟩, hts (.static yX9_isIn) (List.mem_of_getElem? (i := 3) rfl), trivial⟩ rfl hl.1 rfl (Nat.le_of_ble_eq_true rfl) ⟨Nat.zero_le _, Nat.zero_le _⟩ dX2_across_62 (fun H locs hP hS => ?_)
        refine lv_if_ne (tgt := 73) hx hb dX2_across_65 (by decide) (fun c65 => ?_) (fun c65 => ?_)
        · have hf := itF hf c65
          refine lv_iconst (v := (-1)) hx hb dX2_across_73 (by decide) ?_
          obtain rfl := Option.some.inj hf
          exact kr H locs ls 74 dX2_across_74 hP hS
        · have hf := itT hf c65
          refine lv_iload hx hb dX2_across_68 (lv_at hl 2 rfl) ?_
          refine lv_goto (tgt := 74) hx hb dX2_across_70 (by decide) ?_
          obtain rfl := Option.some.inj hf
          exact kr H locs ls 74 dX2_across_74 hP hS
    refine lv_icmp_eq (tgt := 47) hx hb dX2_across_34 (by decide) (fun c34 => ?_) (fun c34 => ?_)
    · have hf := itT hf c34
      refine lv_iconst (v := 1) hx hb dX2_across_47 (by decide) ?_
      refine lv_goto (tgt := 52) hx hb dX2_across_48 (by decide) ?_
      exact hk6 1 hf H locs ls hP hS (lv_sub hl [4, 0] rfl)
    · have hf := itF hf c34
      refine lv_aload_n hx hb dX2_across_37 rfl (lv_at hl 1 rfl) ?_
      refine va_get (D := D) (ci := 2) (v := .ref (ad 5)) (C := RX2) (T := TX2) (N := 12) hx hb hts hiX2 hown hK hP 3 rfl rfl 5 (by decide) lk28 (fun _ h9 => h9) rfl dX2_across_38 ?_
      refine lv_iload_n hx hb dX2_across_41 rfl (lv_at hl 2 rfl) ?_
      obtain ⟨hin9, hf⟩ := gi_out hf
      refine va_iald hx hb hK hP 5 1 rfl rfl hin9 dX2_across_42 ?_
      refine lv_iload_n hx hb dX2_across_43 rfl (lv_at hl 3 rfl) ?_
      refine lv_icmp_ne (tgt := 51) hx hb dX2_across_44 (by decide) (fun c44 => ?_) (fun c44 => ?_)
      · have hf := itF hf c44
        refine lv_iconst (v := 0) hx hb dX2_across_51 (by decide) ?_
        exact hk6 0 hf H locs ls hP hS (lv_sub hl [4, 0] rfl)
      · have hf := itT hf c44
        refine lv_iconst (v := 1) hx hb dX2_across_47 (by decide) ?_
        refine lv_goto (tgt := 52) hx hb dX2_across_48 (by decide) ?_
        exact hk6 1 hf H locs ls hP hS (lv_sub hl [4, 0] rfl)
  refine lv_icmp_ne (tgt := 19) hx hb dX2_across_7 (by decide) (fun c7 => ?_) (fun c7 => ?_)
  · have hf := itF hf c7
    refine lv_aload_n hx hb dX2_across_19 rfl (lv_at hl 0 rfl) ?_
    refine va_get (D := D) (ci := 2) (v := .ref (ad 4)) (C := RX2) (T := TX2) (N := 12) hx hb hts hiX2 hown hK hP 3 rfl rfl 4 (by decide) lk24 (fun _ h9 => h9) rfl dX2_across_20 ?_
    refine lv_iload_n hx hb dX2_across_23 rfl (lv_at hl 1 rfl) ?_
    obtain ⟨hin10, hf⟩ := gi_out hf
    refine va_iald hx hb hK hP 4 1 rfl rfl hin10 dX2_across_24 ?_
    exact hk3 _ hf H locs ls hP hS (lv_sub hl [0, 1, 2, 3] rfl)
  · have hf := itT hf c7
    refine lv_aload_n hx hb dX2_across_10 rfl (lv_at hl 0 rfl) ?_
    refine va_get (D := D) (ci := 2) (v := .ref (ad 5)) (C := RX2) (T := TX2) (N := 12) hx hb hts hiX2 hown hK hP 3 rfl rfl 5 (by decide) lk28 (fun _ h9 => h9) rfl dX2_across_11 ?_
    refine lv_iload_n hx hb dX2_across_14 rfl (lv_at hl 1 rfl) ?_
    obtain ⟨hin11, hf⟩ := gi_out hf
    refine va_iald hx hb hK hP 5 1 rfl rfl hin11 dX2_across_15 ?_
    refine lv_goto (tgt := 25) hx hb dX2_across_16 (by decide) ?_
    exact hk3 _ hf H locs ls hP hS (lv_sub hl [0, 1, 2, 3] rfl)
set_option maxHeartbeats 4000000 in
set_option maxRecDepth 100000 in
theorem c_X2_across (hj : jP ad) (l : Launch) (x1 : Int32) (x2 : Int32) (x3 : Int32) (f : mM) (t : Int64) (r : Int32) (hf : q_X2_across x1 x2 x3 f = some r) : Met l yX2_across wsX2_across ({ frames := 1, cells := 0, slots := 0, locals := 21 }) (va_Pc ([.ref (ad 3), .int x1, .int x2, .int x3]) (pre D cy (wP ad cy) (xP ad sk sv) f t)) (va_Qi (fun (r2 : Int32) (u : mM × Int64) => r2 = r ∧ u = (f, t)) (atW D (wP ad cy)) (aP ad)) 0 0 (aP ad) := by
  refine Met.ofW (cc := cX2_across) (maxL := 6) (ret := (some .int)) (by decide) rfl ?_
  intro p e s m args below meth c s₁ B hml hv
  obtain ⟨rfl, hP, hK, hX0⟩ := hv
  have hl := lv_entry ([.ref (ad 3), .int x1, .int x2, .int x3]) (n := 6) (Nat.le_of_ble_eq_true rfl)
  rw [lg_entry_eq]
  generalize (lg_sl ([.ref (ad 3), .int x1, .int x2, .int x3]) ++ List.replicate (6 - (lg_sl ([.ref (ad 3), .int x1, .int x2, .int x3])).length) Slot.unset).toArray = ls at hl ⊢
  have hlocks := B.notSynchronized
  exact b_X2_across ⟨B.exec, B.bytes, B.returns, hml, findClass_of_methodNamed B.named, atoms_spec (ws := wsX2_across) B.pre, hlocks, hK, hX0⟩ hj ⟨Nat.le_refl _, Nat.le_refl _⟩ x1 x2 x3 f t r hf (fun H locs ls pc hd hP hS => W.iret B.exec B.bytes B.returns (fun t2 ht hW => ⟨⟨r, (f, t), rfl, ⟨rfl, rfl⟩, by show va_P D vwCl _ t2.heap; rw [ht]; exact hP⟩, hS.F ht⟩) hS.2.2 hd) s.heap [] ls hP va_S.rf hl
def q_X2_takes (x1 : Int32) (x2 : Int32) (f : mM) : Option (Int32) := gi x1 4 (sq (fun (v2 : Int32) => if v2 = 0 then gi x1 4 (some (f 7 (Int32.toNatClampNeg x1))) else some 0) (fun k3 => sq (fun (_ : Unit) => k3 0) (fun k5 => if (f 8 (Int32.toNatClampNeg x1)) = 2 then nz 2 (if (x2 - x2 / 2 * 2) = 1 then k3 1 else k5 ()) else k5 ())))
set_option maxHeartbeats 4000000 in
set_option maxRecDepth 100000 in
theorem b_X2_takes (C0 : cX p s m args meth c cX2_takes 4 (some .int) RX2 wsX2_takes D cy (xP ad sk sv)) (hj : jP ad) (hR : 0 ≤ R.frames ∧ 0 ≤ R.locals) (x1 : Int32) (x2 : Int32) (f : mM) (t : Int64) (r : Int32) (hf : q_X2_takes x1 x2 f = some r) (kr : ∀ (H : Heap) (locs : List Loc) (ls : Array Slot) (pc : Nat), decode cX2_takes pc = .ok (.ireturn, 1) → va_P D vwCl (wP ad cy f t) H → va_S (aP ad) s.heap H locs → W p l e R s m args below meth c H locs 0 0 Q (F0 m pc ls [.int r])) (H : Heap) (locs : List Loc) (ls : Array Slot) (hP : va_P D vwCl (wP ad cy f t) H) (hS : va_S (aP ad) s.heap H locs) (hl : lv_has ls 4 [(0, .ref (ad 3)), (1, .int x1), (2, .int x2)]) : W p l e R s m args below meth c H locs 0 0 Q (F0 m 0 ls []) := by
  obtain ⟨hx, hb, hr, hml, hown, hts, hlocks, hK, hX0⟩ := id C0
  have lk37 := hts (.fieldLink RX2 37 "PlankNine$Marsh" "stride" "[I") (List.mem_of_getElem? (i := 1) rfl)
  have hiX2 : ∀ w ∈ u_ws RX2 TX2 12, w ∈ wsX2_takes := fun w h => List.mem_cons_of_mem _ (List.mem_append_right _ h)
  have lk34 := hts (.fieldLink RX2 34 "PlankNine$Marsh" "weight" "[I") (List.mem_of_getElem? (i := 2) rfl)
  unfold q_X2_takes at hf
  refine lv_aload_n hx hb dX2_takes_0 rfl (lv_at hl 0 rfl) ?_
  refine va_get (D := D) (ci := 2) (v := .ref (ad 8)) (C := RX2) (T := TX2) (N := 12) hx hb hts hiX2 hown hK hP 3 rfl rfl 8 (by decide) lk37 (fun _ h9 => h9) rfl dX2_takes_1 ?_
  refine lv_iload_n hx hb dX2_takes_4 rfl (lv_at hl 1 rfl) ?_
  obtain ⟨hin1, hf⟩ := gi_out hf
  refine va_iald hx hb hK hP 8 1 rfl rfl hin1 dX2_takes_5 ?_
  refine lv_iconst (v := 2) hx hb dX2_takes_6 (by decide) ?_
  obtain ⟨k3, ek3, hf⟩ := sq_out hf
  have hk3 : ∀ (v2 : Int32), k3 v2 = some r → ∀ (H : Heap) (locs : List Loc) (ls : Array Slot), va_P D vwCl (wP ad cy f t) H → va_S (aP ad) s.heap H locs → lv_has ls 4 [(0, .ref (ad 3)), (1, .int x1)] → W p l e R s m args below meth c H locs 0 0 Q (F0 m 22 ls [.int v2]) := by
    intro v2 hf H locs ls hP hS hl
    have hf := sk1 ek3 v2 hf
    refine lv_istore_n (lv' := [(3, .int v2), (0, .ref (ad 3)), (1, .int x1)]) hx hb dX2_takes_22 rfl hl (by decide) rfl (fun ls hl => ?_)
    refine lv_iload_n hx hb dX2_takes_23 rfl (lv_at hl 0 rfl) ?_
    refine lv_if_eq (tgt := 31) hx hb dX2_takes_24 (by decide) (fun c24 => ?_) (fun c24 => ?_)
    · have hf := itT hf c24
      refine lv_aload_n hx hb dX2_takes_31 rfl (lv_at hl 1 rfl) ?_
      refine va_get (D := D) (ci := 2) (v := .ref (ad 7)) (C := RX2) (T := TX2) (N := 12) hx hb hts hiX2 hown hK hP 3 rfl rfl 7 (by decide) lk34 (fun _ h9 => h9) rfl dX2_takes_32 ?_
      refine lv_iload_n hx hb dX2_takes_35 rfl (lv_at hl 2 rfl) ?_
      obtain ⟨hin4, hf⟩ := gi_out hf
      refine va_iald hx hb hK hP 7 1 rfl rfl hin4 dX2_takes_36 ?_
      obtain rfl := Option.some.inj hf
      exact kr H locs ls 37 dX2_takes_37 hP hS
    · have hf := itF hf c24
      refine lv_iconst (v := 0) hx hb dX2_takes_27 (by decide) ?_
      refine lv_goto (tgt := 37) hx hb dX2_takes_28 (by decide) ?_
      obtain rfl := Option.some.inj hf
      exact kr H locs ls 37 dX2_takes_37 hP hS
  obtain ⟨k5, ek5, hf⟩ := sq_out hf
  have hk5 : k5 () = some r → ∀ (H : Heap) (locs : List Loc) (ls : Array Slot), va_P D vwCl (wP ad cy f t) H → va_S (aP ad) s.heap H locs → lv_has ls 4 [(0, .ref (ad 3)), (1, .int x1)] → W p l e R s m args below meth c H locs 0 0 Q (F0 m 21 ls []) := by
    intro hf H locs ls hP hS hl
    have hf := sk1 ek5 () hf
    refine lv_iconst (v := 0) hx hb dX2_takes_21 (by decide) ?_
    exact hk3 0 hf H locs ls hP hS (lv_sub hl [0, 1] rfl)
  refine lv_icmp_ne (tgt := 21) hx hb dX2_takes_7 (by decide) (fun c7 => ?_) (fun c7 => ?_)
  · have hf := itF hf c7
    exact hk5 hf H locs ls hP hS (lv_sub hl [0, 1] rfl)
  · have hf := itT hf c7
    refine lv_iload_n hx hb dX2_takes_10 rfl (lv_at hl 2 rfl) ?_
    refine lv_iconst (v := 2) hx hb dX2_takes_11 (by decide) ?_
    obtain ⟨z6, hf⟩ := nz_out hf
    refine lv_irem hx hb dX2_takes_12 z6 ?_
    refine lv_iconst (v := 1) hx hb dX2_takes_13 (by decide) ?_
    refine lv_icmp_ne (tgt := 21) hx hb dX2_takes_14 (by decide) (fun c14 => ?_) (fun c14 => ?_)
    · have hf := itF hf c14
      exact hk5 hf H locs ls hP hS (lv_sub hl [0, 1] rfl)
    · have hf := itT hf c14
      refine lv_iconst (v := 1) hx hb dX2_takes_17 (by decide) ?_
      refine lv_goto (tgt := 22) hx hb dX2_takes_18 (by decide) ?_
      exact hk3 1 hf H locs ls hP hS (lv_sub hl [0, 1] rfl)
set_option maxHeartbeats 4000000 in
set_option maxRecDepth 100000 in
theorem c_X2_takes (hj : jP ad) (l : Launch) (x1 : Int32) (x2 : Int32) (f : mM) (t : Int64) (r : Int32) (hf : q_X2_takes x1 x2 f = some r) : Met l yX2_takes wsX2_takes ({ frames := 0, cells := 0, slots := 0, locals := 0 }) (va_Pc ([.ref (ad 3), .int x1, .int x2]) (pre D cy (wP ad cy) (xP ad sk sv) f t)) (va_Qi (fun (r2 : Int32) (u : mM × Int64) => r2 = r ∧ u = (f, t)) (atW D (wP ad cy)) (aP ad)) 0 0 (aP ad) := by
  refine Met.ofW (cc := cX2_takes) (maxL := 4) (ret := (some .int)) (by decide) rfl ?_
  intro p e s m args below meth c s₁ B hml hv
  obtain ⟨rfl, hP, hK, hX0⟩ := hv
  have hl := lv_entry ([.ref (ad 3), .int x1, .int x2]) (n := 4) (Nat.le_of_ble_eq_true rfl)
  rw [lg_entry_eq]
  generalize (lg_sl ([.ref (ad 3), .int x1, .int x2]) ++ List.replicate (4 - (lg_sl ([.ref (ad 3), .int x1, .int x2])).length) Slot.unset).toArray = ls at hl ⊢
  have hlocks := B.notSynchronized
  exact b_X2_takes ⟨B.exec, B.bytes, B.returns, hml, findClass_of_methodNamed B.named, atoms_spec (ws := wsX2_takes) B.pre, hlocks, hK, hX0⟩ hj ⟨Nat.le_refl _, Nat.le_refl _⟩ x1 x2 f t r hf (fun H locs ls pc hd hP hS => W.iret B.exec B.bytes B.returns (fun t2 ht hW => ⟨⟨r, (f, t), rfl, ⟨rfl, rfl⟩, by show va_P D vwCl _ t2.heap; rw [ht]; exact hP⟩, hS.F ht⟩) hS.2.2 hd) s.heap [] ls hP va_S.rf hl
