/-! THE CLAIM OUT OF ONE WALK OF THE LAW'S BODY. Your part is whole_start (and what it stands on); all else here is the same for every law, but numbers. -/
def R_law : String := "PlankNineLaw"
def lw_P (b : Addr) (xs : List Int32) (args : Array Value) (s : State) : Prop := args = #[.ref b] ∧ s.IntsAt b xs ∧ xs.length ≤ 2560 ∧ (Jvm.Cond.and given_1 narrow_1).before args s = true
def lw_Q (_ : Array Value) (s : State) (o : Outcome) (t : State) : Prop := o = .returned (some (.int 1)) ∧ Framed s o t [] 600000 7302250
def lw_Z (below : List Frame) (a : Array Value) (s : State) : State → Prop := fun t => ∃ o, t.status = .running ∧ Ended t below o ∧ lw_Q a s o t
/-- the law's own end, with 1 on the stack, nothing written that was there before, its room as the claim has it -/
theorem lw_ret {p : Program} {l : Launch} {e : Env} {s : State} {m : MethodId} {below : List Frame} {meth : Method} {c : Code} {b : Nat} (hx : p.tables.exec = Jvm.exec) (hb : c.code = code) (hr : meth.sig.returnType = ret) (hlocks : meth.locks = false) {pc : Nat} {H : Heap} {ls : Array Slot} (hdg : decode code pc = .ok (.ireturn, 1)) : W p l e room_1 s m #[Value.ref b] below meth c H [] 600000 7302250 (lw_Z below #[Value.ref b] s) (F0 m pc ls [.int 1]) := by
  intro T hT X
  obtain ⟨fs, hret, hrun, hended, hW, hframe⟩ := X.leave (v := some (.int 1)) (hlocks := hlocks) (fun h => by rw [hr] at h; cases h)
  have hmeth' : T.vm.method? m = some meth := X.method'
  refine ⟨T.setFrames fs, ?_, .returned (some (.int 1)), hrun, hended, rfl, ⟨_, rfl⟩, hW, hframe⟩
  jvm_step X.here [X.here.top, hx, hb, hdg, hmeth', hr, ret, narrow_b1]
  (try refine ⟨rfl, ?_⟩); (try refine ⟨rfl, ?_⟩)
  first | (intro acts; rw [hret _ acts rfl rfl rfl]) | rw [hret _ _ rfl rfl rfl]
  exact Steps.refl _
/-- what holds at the law's entry: the machine, the code, the tables' words (any of lw_tbl by 'hts w (by decide +kernel)'), the script of L ints xs at the cell b, what the Statement gives of the start (any of its parts by flat_of_before) -/
def lw_At (p : Program) (s : State) (m : MethodId) (meth : Method) (c : Code) (b L : Nat) (xs : Nat → Int32) : Prop :=
  p.tables.exec = Jvm.exec ∧ c.code = code ∧ meth.sig.returnType = ret ∧ c.maxLocals = 4 ∧ s.vm.findClass R_law = some m.cls ∧ (∀ w ∈ lw_tbl, w.before #[Value.ref b] s = true) ∧ va_X b L xs s s.heap ∧ b < s.heap.size ∧ meth.locks = false ∧ (Jvm.Cond.and given_1 narrow_1).before #[Value.ref b] s = true
theorem lg_self (r : Int64) : lg_cmp r r = 0 := by
  have h : ¬ r < r := by intro h; exact absurd h (by rw [Int64.lt_iff_toInt_lt]; omega)
  simp [lg_cmp, h]
theorem law_in {L i : Nat} (hL : L ≤ 2560) (hi : i ≤ L + 5) (h : ¬ Int32.ofNat L - 5 < nI i) : i + 5 ≤ L := by
  have h1 : (Int32.ofNat L - 5).toInt = (L : Int) - 5 := by
    have := pk_sub_toInt (a := L) (b := 5) (by omega) (by omega)
    exact this
  have h2 : (nI i).toInt = (i : Int) := nI_toInt (by omega)
  rw [Int32.lt_iff_toInt_lt, h1, h2] at h
  omega
section LC
variable {p : Program} {l : Launch} {e : Env} {R : Room} {s : State} {m : MethodId} {args : Array Value} {below : List Frame} {meth : Method} {c : Code} {H : Heap} {locs : List Loc} {cells slots : Nat} {Q : State → Prop} {cc bytes : ByteArray} {nL maxL n index : Nat} {Ts ws : List Cond} {own C host : String} {y : MethodName} {ret : Option FieldType} {rm : Room} {b : Addr} {As rest st : List Value} {D : va_G} {cy : Nat → ClassId} {A : Nat → Prop} {X : State → Prop} {w : wT} {w2 : va_W} {f f' : mM} {t t' : Int64} {pc : Nat} {ls : Array Slot}
theorem lc_S (hS : va_S (fun q : Nat => s.heap.size ≤ q) s.heap H locs) : va_S A s.heap H [] := ⟨hS.1, fun q h _ => hS.2.1 q h (Nat.not_le.mpr h), fun _ h => by cases h⟩
theorem lc_K (hd : ∀ (k : Nat) (x : Nat × va_E), w2[k]? = some x → ¬ A x.1) {H1 : Heap} (hP : va_P D vwCl w2 H) (hk : ∀ q : Nat, q < H.size → ¬ A q → H1[q]? = H[q]?) : va_P D vwCl w2 H1 := hP.kept (fun k x hx => hk x.1 (hP k x hx).lt (hd k x hx))
theorem lc_vi {r : Int32} (hX : xS A X) (hA : ∀ q, A q → s.heap.size ≤ q) (hd : ∀ (k : Nat) (x : Nat × va_E), w2[k]? = some x → ¬ A x.1) (S : CallFix p m c cc nL s args Ts own) (hK : va_K D vwCl (tyA cy) s) (hx : X s) (hS : va_S (fun q : Nat => s.heap.size ≤ q) s.heap H locs) (hP : va_P D vwCl (w f t) H) (hP2 : va_P D vwCl w2 H)
    (hM : Met l y ws rm (va_Pc (.ref b :: As) (pre D cy w X f t)) (va_Qi (fun (r2 : Int32) (u : mM × Int64) => r2 = r ∧ u = (f', t')) (atW D w) A) 0 0 A) (cw : CallW R s args own C index y bytes maxL ret ws rm 0 0 n)
    (hrecv : ∃ cell : Cell, H[b]? = some cell ∧ cell.vm.isStatics = false ∧ s.vm.findClass C = some cell.cls) (hn : As.length = n) (hsize : ls.size = nL) (hst : st = As.reverse ++ .ref b :: rest) (hW : (rest.map fun v => v.category).sum ≤ 8) (hc : cells + 0 ≤ R.cells ∧ slots + 0 ≤ R.slots) (hdg : decode cc pc = .ok (.invokevirtual index, 3))
    (kk : ∀ (H1 : Heap) (locs1 : List Loc), va_P D vwCl (w f' t') H1 → va_P D vwCl w2 H1 → va_S (fun q : Nat => s.heap.size ≤ q) s.heap H1 locs1 → W p l e R s m args below meth c H1 locs1 cells slots Q (F0 m (pc + 3) ls (.int r :: rest))) : W p l e R s m args below meth c H locs cells slots Q (F0 m pc ls st) := by
  refine va_calli (va_runV (As := As) (rest := rest) S hM cw ⟨pre_blind hX, hrecv, pre_go hX hK hx (lc_S hS) hP _⟩ rfl hn hsize hst (lv_room hW) hdg hc) hS (fun q _ h => hA q h) (fun q h => hA q h) (fun r2 u t2 H1 locs1 ht hvm hw hB hz1 hk1 hS1 => ?_)
  obtain ⟨rfl, rfl⟩ := hw
  exact kk H1 locs1 (by rw [← ht]; exact hB) (lc_K hd hP2 hk1) hS1
theorem lc_vl {r : Int64} (hX : xS A X) (hA : ∀ q, A q → s.heap.size ≤ q) (hd : ∀ (k : Nat) (x : Nat × va_E), w2[k]? = some x → ¬ A x.1) (S : CallFix p m c cc nL s args Ts own) (hK : va_K D vwCl (tyA cy) s) (hx : X s) (hS : va_S (fun q : Nat => s.heap.size ≤ q) s.heap H locs) (hP : va_P D vwCl (w f t) H) (hP2 : va_P D vwCl w2 H)
    (hM : Met l y ws rm (va_Pc (.ref b :: As) (pre D cy w X f t)) (va_Ql (fun (r2 : Int64) (u : mM × Int64) => r2 = r ∧ u = (f', t')) (atW D w) A) 0 0 A) (cw : CallW R s args own C index y bytes maxL ret ws rm 0 0 n)
    (hrecv : ∃ cell : Cell, H[b]? = some cell ∧ cell.vm.isStatics = false ∧ s.vm.findClass C = some cell.cls) (hn : As.length = n) (hsize : ls.size = nL) (hst : st = As.reverse ++ .ref b :: rest) (hW : (rest.map fun v => v.category).sum ≤ 8) (hc : cells + 0 ≤ R.cells ∧ slots + 0 ≤ R.slots) (hdg : decode cc pc = .ok (.invokevirtual index, 3))
    (kk : ∀ (H1 : Heap) (locs1 : List Loc), va_P D vwCl (w f' t') H1 → va_P D vwCl w2 H1 → va_S (fun q : Nat => s.heap.size ≤ q) s.heap H1 locs1 → W p l e R s m args below meth c H1 locs1 cells slots Q (F0 m (pc + 3) ls (.long r :: rest))) : W p l e R s m args below meth c H locs cells slots Q (F0 m pc ls st) := by
  refine va_calll (va_runV (As := As) (rest := rest) S hM cw ⟨pre_blind hX, hrecv, pre_go hX hK hx (lc_S hS) hP _⟩ rfl hn hsize hst (lv_room hW) hdg hc) hS (fun q _ h => hA q h) (fun q h => hA q h) (fun r2 u t2 H1 locs1 ht hvm hw hB hz1 hk1 hS1 => ?_)
  obtain ⟨rfl, rfl⟩ := hw
  exact kk H1 locs1 (by rw [← ht]; exact hB) (lc_K hd hP2 hk1) hS1
end LC

set_option maxHeartbeats 4000000 in
set_option maxRecDepth 100000 in
theorem law_type {p : Program} {l : Launch} {e : Env} {s : State} {m : MethodId} {below : List Frame} {meth : Method} {c : Code} {D : va_G} {cy : Nat → ClassId} {ad ad2 sk sv : Nat → Nat} {b L : Nat} {xs : Nat → Int32} (C0 : lw_At p s m meth c b L xs) (hj : jP ad) (hj2 : jR ad2) (hdj : ∀ i j : Nat, i < 44 → j < 19 → ad i ≠ ad2 j) (hup : ∀ i : Nat, i < 44 → s.heap.size ≤ ad i) (hup2 : ∀ i : Nat, i < 19 → s.heap.size ≤ ad2 i) (hK : va_K D vwCl (tyA cy) s) (hX0 : xP ad sk sv s) {I : mM → Int64 → mM → Int64 → Prop} {N : Nat} (hs : S_type I N) {x3 : Int32} (hin1 : vp_in (x3 + 1) L) (hin2 : vp_in (x3 + 2) L) (hin3 : vp_in (x3 + 3) L) (kk : ∀ (f : mM) (t : Int64) (g : mM) (u : Int64), I f t g u → ∀ (H : Heap) (locs : List Loc) (ls : Array Slot), va_P D vwCl (wP ad cy f t) H → va_P D vwCl (wR ad2 cy g u) H → va_S (fun q : Nat => s.heap.size ≤ q) s.heap H locs → lv_has ls 4 [(0, .ref b), (1, .ref (ad 0)), (2, .ref (ad2 0)), (3, .int x3)] → W p l e room_1 s m #[Value.ref b] below meth c H locs 63 7246 (lw_Z below #[Value.ref b] s) (F0 m 888 ls [])) (f : mM) (t : Int64) (g : mM) (u : Int64) (hI : I f t g u) (H : Heap) (locs : List Loc) (ls : Array Slot) (hP : va_P D vwCl (wP ad cy f t) H) (hP2 : va_P D vwCl (wR ad2 cy g u) H) (hS : va_S (fun q : Nat => s.heap.size ≤ q) s.heap H locs) (hl : lv_has ls 4 [(0, .ref b), (1, .ref (ad 0)), (2, .ref (ad2 0)), (3, .int x3)]) : W p l e room_1 s m #[Value.ref b] below meth c H locs 63 7246 (lw_Z below #[Value.ref b] s) (F0 m 144 ls []) := by
  obtain ⟨hx, hb, hr, hml, hown, hts0, hX, hbl, hlocks, hgv⟩ := id C0
  have hts : ∀ w ∈ wsL_law, w.before #[Value.ref b] s = true := fun w h => hts0 w (wsL_law_in w h)
  have hown : s.vm.findClass RL = some m.cls := hown
  have hbA : ¬ (fun q : Nat => s.heap.size ≤ q) b := Nat.not_le.mpr hbl
  have hA1 : ∀ q, aP ad q → s.heap.size ≤ q := fun q ⟨k, h1, h2⟩ => by rw [h2]; exact hup k h1
  have hA2 : ∀ q, aR ad2 q → s.heap.size ≤ q := fun q ⟨k, h1, h2⟩ => by rw [h2]; exact hup2 k h1
  have hd1 : ∀ (g : mM) (u : Int64) (k : Nat) (x : Nat × va_E), (wR ad2 cy g u)[k]? = some x → ¬ aP ad x.1 := fun g u k x hx => by
    obtain ⟨k2, h1, h2⟩ := (dR hj2 g u).2 k x hx
    rintro ⟨k1, h3, h4⟩
    exact hdj k1 k2 h3 h1 (by rw [← h4, ← h2])
  have hd2 : ∀ (f : mM) (t : Int64) (k : Nat) (x : Nat × va_E), (wP ad cy f t)[k]? = some x → ¬ aR ad2 x.1 := fun f t k x hx => by
    obtain ⟨k1, h1, h2⟩ := (dP hj f t).2 k x hx
    rintro ⟨k2, h3, h4⟩
    exact hdj k1 k2 h1 h3 (by rw [← h2, ← h4])
  obtain ⟨r, f', g', hq1, hq2, hI⟩ := hs f t g u hI (((Int32.toInt64 (xs (Int32.toNatClampNeg (x3 + 1)))) <<< (Int32.toInt64 32 &&& 63)) ||| ((Int32.toInt64 (xs (Int32.toNatClampNeg (x3 + 2)))) &&& 4294967295)) (xs (Int32.toNatClampNeg (x3 + 3)))
  refine lv_aload_n hx hb dL_law_144 rfl (lv_at hl 1 rfl) ?_
  refine lv_aload_n hx hb dL_law_145 rfl (lv_at hl 0 rfl) ?_
  refine lv_iload_n hx hb dL_law_146 rfl (lv_at hl 3 rfl) ?_
  refine lv_iconst (v := 1) hx hb dL_law_147 (by decide) ?_
  refine lv_iadd hx hb dL_law_148 ?_
  refine va_sld hx hb hX hbl hbA hS hin1 dL_law_149 ?_
  refine lv_i2l hx hb dL_law_150 rfl ?_
  refine lv_bipush (v := 32) hx hb dL_law_151 (by decide) ?_
  refine lv_lshl hx hb dL_law_153 rfl ?_
  refine lv_aload_n hx hb dL_law_154 rfl (lv_at hl 0 rfl) ?_
  refine lv_iload_n hx hb dL_law_155 rfl (lv_at hl 3 rfl) ?_
  refine lv_iconst (v := 2) hx hb dL_law_156 (by decide) ?_
  refine lv_iadd hx hb dL_law_157 ?_
  refine va_sld hx hb hX hbl hbA hS hin2 dL_law_158 ?_
  refine lv_i2l hx hb dL_law_159 rfl ?_
  refine lv_ldc2 (v := 4294967295) hx hb hown (hts (.constantLong RL 13 (4294967295)) (List.mem_of_getElem? (i := 6) rfl)) dL_law_160 ?_
  refine lv_land hx hb dL_law_163 ?_
  refine lv_lor hx hb dL_law_164 ?_
  refine lv_aload_n hx hb dL_law_165 rfl (lv_at hl 0 rfl) ?_
  refine lv_iload_n hx hb dL_law_166 rfl (lv_at hl 3 rfl) ?_
  refine lv_iconst (v := 3) hx hb dL_law_167 (by decide) ?_
  refine lv_iadd hx hb dL_law_168 ?_
  refine va_sld hx hb hX hbl hbA hS hin3 dL_law_169 ?_
  refine lc_vi (As := [.long (((Int32.toInt64 (xs (Int32.toNatClampNeg (x3 + 1)))) <<< (Int32.toInt64 32 &&& 63)) ||| ((Int32.toInt64 (xs (Int32.toNatClampNeg (x3 + 2)))) &&& 4294967295)), .int (xs (Int32.toNatClampNeg (x3 + 3)))]) (rest := []) xP_S hA1 (hd1 g u) ⟨hx, hb, hml, hown, hts⟩ hK hX0 hS hP hP2 (c_X9_type hj l N (((Int32.toInt64 (xs (Int32.toNatClampNeg (x3 + 1)))) <<< (Int32.toInt64 32 &&& 63)) ||| ((Int32.toInt64 (xs (Int32.toNatClampNeg (x3 + 2)))) &&& 4294967295)) (xs (Int32.toNatClampNeg (x3 + 3))) f t r f' hq1) (cwV 2 hts gL_law_X9_type rfl rfl rfl (by decide +kernel) ⟨Nat.le_of_ble_eq_true rfl, Nat.le_of_ble_eq_true rfl⟩) (va_recv hK hP (ci := 9) (q0 := 0) rfl rfl) rfl hl.1 rfl (Nat.le_of_ble_eq_true rfl) ⟨Nat.le_of_ble_eq_true rfl, Nat.le_of_ble_eq_true rfl⟩ dL_law_170 (fun H locs hP hP2 hS => ?_)
  refine lv_aload_n hx hb dL_law_173 rfl (lv_at hl 2 rfl) ?_
  refine lv_aload_n hx hb dL_law_174 rfl (lv_at hl 0 rfl) ?_
  refine lv_iload_n hx hb dL_law_175 rfl (lv_at hl 3 rfl) ?_
  refine lv_iconst (v := 1) hx hb dL_law_176 (by decide) ?_
  refine lv_iadd hx hb dL_law_177 ?_
  refine va_sld hx hb hX hbl hbA hS hin1 dL_law_178 ?_
  refine lv_i2l hx hb dL_law_179 rfl ?_
  refine lv_bipush (v := 32) hx hb dL_law_180 (by decide) ?_
  refine lv_lshl hx hb dL_law_182 rfl ?_
  refine lv_aload_n hx hb dL_law_183 rfl (lv_at hl 0 rfl) ?_
  refine lv_iload_n hx hb dL_law_184 rfl (lv_at hl 3 rfl) ?_
  refine lv_iconst (v := 2) hx hb dL_law_185 (by decide) ?_
  refine lv_iadd hx hb dL_law_186 ?_
  refine va_sld hx hb hX hbl hbA hS hin2 dL_law_187 ?_
  refine lv_i2l hx hb dL_law_188 rfl ?_
  refine lv_ldc2 (v := 4294967295) hx hb hown (hts (.constantLong RL 13 (4294967295)) (List.mem_of_getElem? (i := 6) rfl)) dL_law_189 ?_
  refine lv_land hx hb dL_law_192 ?_
  refine lv_lor hx hb dL_law_193 ?_
  refine lv_aload_n hx hb dL_law_194 rfl (lv_at hl 0 rfl) ?_
  refine lv_iload_n hx hb dL_law_195 rfl (lv_at hl 3 rfl) ?_
  refine lv_iconst (v := 3) hx hb dL_law_196 (by decide) ?_
  refine lv_iadd hx hb dL_law_197 ?_
  refine va_sld hx hb hX hbl hbA hS hin3 dL_law_198 ?_
  refine lc_vi (As := [.long (((Int32.toInt64 (xs (Int32.toNatClampNeg (x3 + 1)))) <<< (Int32.toInt64 32 &&& 63)) ||| ((Int32.toInt64 (xs (Int32.toNatClampNeg (x3 + 2)))) &&& 4294967295)), .int (xs (Int32.toNatClampNeg (x3 + 3)))]) (rest := [.int r]) xR_S hA2 (hd2 f' t) ⟨hx, hb, hml, hown, hts⟩ hK trivial hS hP2 hP (c_X10_type hj2 l N (((Int32.toInt64 (xs (Int32.toNatClampNeg (x3 + 1)))) <<< (Int32.toInt64 32 &&& 63)) ||| ((Int32.toInt64 (xs (Int32.toNatClampNeg (x3 + 2)))) &&& 4294967295)) (xs (Int32.toNatClampNeg (x3 + 3))) g u r g' hq2) (cwV 2 hts gL_law_X10_type rfl rfl rfl (by decide +kernel) ⟨Nat.le_of_ble_eq_true rfl, Nat.le_of_ble_eq_true rfl⟩) (va_recv hK hP2 (ci := 10) (q0 := 0) rfl rfl) rfl hl.1 rfl (Nat.le_of_ble_eq_true rfl) ⟨Nat.le_of_ble_eq_true rfl, Nat.le_of_ble_eq_true rfl⟩ dL_law_199 (fun H locs hP2 hP hS => ?_)
  refine lv_icmp_eq (tgt := 888) hx hb dL_law_202 (by decide) (fun _ => ?_) (fun h => absurd rfl h)
  exact kk f' t g' u hI H locs ls hP hP2 hS hl
set_option maxHeartbeats 4000000 in
set_option maxRecDepth 100000 in
theorem law_clear {p : Program} {l : Launch} {e : Env} {s : State} {m : MethodId} {below : List Frame} {meth : Method} {c : Code} {D : va_G} {cy : Nat → ClassId} {ad ad2 sk sv : Nat → Nat} {b L : Nat} {xs : Nat → Int32} (C0 : lw_At p s m meth c b L xs) (hj : jP ad) (hj2 : jR ad2) (hdj : ∀ i j : Nat, i < 44 → j < 19 → ad i ≠ ad2 j) (hup : ∀ i : Nat, i < 44 → s.heap.size ≤ ad i) (hup2 : ∀ i : Nat, i < 19 → s.heap.size ≤ ad2 i) (hK : va_K D vwCl (tyA cy) s) (hX0 : xP ad sk sv s) {I : mM → Int64 → mM → Int64 → Prop} {N : Nat} (hs : S_clear I N) {x3 : Int32}  (kk : ∀ (f : mM) (t : Int64) (g : mM) (u : Int64), I f t g u → ∀ (H : Heap) (locs : List Loc) (ls : Array Slot), va_P D vwCl (wP ad cy f t) H → va_P D vwCl (wR ad2 cy g u) H → va_S (fun q : Nat => s.heap.size ≤ q) s.heap H locs → lv_has ls 4 [(0, .ref b), (1, .ref (ad 0)), (2, .ref (ad2 0)), (3, .int x3)] → W p l e room_1 s m #[Value.ref b] below meth c H locs 63 7246 (lw_Z below #[Value.ref b] s) (F0 m 888 ls [])) (f : mM) (t : Int64) (g : mM) (u : Int64) (hI : I f t g u) (H : Heap) (locs : List Loc) (ls : Array Slot) (hP : va_P D vwCl (wP ad cy f t) H) (hP2 : va_P D vwCl (wR ad2 cy g u) H) (hS : va_S (fun q : Nat => s.heap.size ≤ q) s.heap H locs) (hl : lv_has ls 4 [(0, .ref b), (1, .ref (ad 0)), (2, .ref (ad2 0)), (3, .int x3)]) : W p l e room_1 s m #[Value.ref b] below meth c H locs 63 7246 (lw_Z below #[Value.ref b] s) (F0 m 207 ls []) := by
  obtain ⟨hx, hb, hr, hml, hown, hts0, hX, hbl, hlocks, hgv⟩ := id C0
  have hts : ∀ w ∈ wsL_law, w.before #[Value.ref b] s = true := fun w h => hts0 w (wsL_law_in w h)
  have hown : s.vm.findClass RL = some m.cls := hown
  have hbA : ¬ (fun q : Nat => s.heap.size ≤ q) b := Nat.not_le.mpr hbl
  have hA1 : ∀ q, aP ad q → s.heap.size ≤ q := fun q ⟨k, h1, h2⟩ => by rw [h2]; exact hup k h1
  have hA2 : ∀ q, aR ad2 q → s.heap.size ≤ q := fun q ⟨k, h1, h2⟩ => by rw [h2]; exact hup2 k h1
  have hd1 : ∀ (g : mM) (u : Int64) (k : Nat) (x : Nat × va_E), (wR ad2 cy g u)[k]? = some x → ¬ aP ad x.1 := fun g u k x hx => by
    obtain ⟨k2, h1, h2⟩ := (dR hj2 g u).2 k x hx
    rintro ⟨k1, h3, h4⟩
    exact hdj k1 k2 h3 h1 (by rw [← h4, ← h2])
  have hd2 : ∀ (f : mM) (t : Int64) (k : Nat) (x : Nat × va_E), (wP ad cy f t)[k]? = some x → ¬ aR ad2 x.1 := fun f t k x hx => by
    obtain ⟨k1, h1, h2⟩ := (dP hj f t).2 k x hx
    rintro ⟨k2, h3, h4⟩
    exact hdj k1 k2 h1 h3 (by rw [← h2, ← h4])
  obtain ⟨r, f', g', hq1, hq2, hI⟩ := hs f t g u hI
  refine lv_aload_n hx hb dL_law_207 rfl (lv_at hl 1 rfl) ?_
  refine lc_vi (As := []) (rest := []) xP_S hA1 (hd1 g u) ⟨hx, hb, hml, hown, hts⟩ hK hX0 hS hP hP2 (c_X9_clear hj l f t r f' hq1) (cwV 0 hts gL_law_X9_clear rfl rfl rfl (by decide +kernel) ⟨Nat.le_of_ble_eq_true rfl, Nat.le_of_ble_eq_true rfl⟩) (va_recv hK hP (ci := 9) (q0 := 0) rfl rfl) rfl hl.1 rfl (Nat.le_of_ble_eq_true rfl) ⟨Nat.le_of_ble_eq_true rfl, Nat.le_of_ble_eq_true rfl⟩ dL_law_208 (fun H locs hP hP2 hS => ?_)
  refine lv_aload_n hx hb dL_law_211 rfl (lv_at hl 2 rfl) ?_
  refine lc_vi (As := []) (rest := [.int r]) xR_S hA2 (hd2 f' t) ⟨hx, hb, hml, hown, hts⟩ hK trivial hS hP2 hP (c_X10_clear hj2 l g u r g' hq2) (cwV 0 hts gL_law_X10_clear rfl rfl rfl (by decide +kernel) ⟨Nat.le_of_ble_eq_true rfl, Nat.le_of_ble_eq_true rfl⟩) (va_recv hK hP2 (ci := 10) (q0 := 0) rfl rfl) rfl hl.1 rfl (Nat.le_of_ble_eq_true rfl) ⟨Nat.le_of_ble_eq_true rfl, Nat.le_of_ble_eq_true rfl⟩ dL_law_212 (fun H locs hP2 hP hS => ?_)
  refine lv_icmp_eq (tgt := 888) hx hb dL_law_215 (by decide) (fun _ => ?_) (fun h => absurd rfl h)
  exact kk f' t g' u hI H locs ls hP hP2 hS hl
set_option maxHeartbeats 4000000 in
set_option maxRecDepth 100000 in
theorem law_marsh {p : Program} {l : Launch} {e : Env} {s : State} {m : MethodId} {below : List Frame} {meth : Method} {c : Code} {D : va_G} {cy : Nat → ClassId} {ad ad2 sk sv : Nat → Nat} {b L : Nat} {xs : Nat → Int32} (C0 : lw_At p s m meth c b L xs) (hj : jP ad) (hj2 : jR ad2) (hdj : ∀ i j : Nat, i < 44 → j < 19 → ad i ≠ ad2 j) (hup : ∀ i : Nat, i < 44 → s.heap.size ≤ ad i) (hup2 : ∀ i : Nat, i < 19 → s.heap.size ≤ ad2 i) (hK : va_K D vwCl (tyA cy) s) (hX0 : xP ad sk sv s) {I : mM → Int64 → mM → Int64 → Prop} {N : Nat} (hs : S_marsh I N) {x3 : Int32}  (kk : ∀ (f : mM) (t : Int64) (g : mM) (u : Int64), I f t g u → ∀ (H : Heap) (locs : List Loc) (ls : Array Slot), va_P D vwCl (wP ad cy f t) H → va_P D vwCl (wR ad2 cy g u) H → va_S (fun q : Nat => s.heap.size ≤ q) s.heap H locs → lv_has ls 4 [(0, .ref b), (1, .ref (ad 0)), (2, .ref (ad2 0)), (3, .int x3)] → W p l e room_1 s m #[Value.ref b] below meth c H locs 63 7246 (lw_Z below #[Value.ref b] s) (F0 m 888 ls [])) (f : mM) (t : Int64) (g : mM) (u : Int64) (hI : I f t g u) (H : Heap) (locs : List Loc) (ls : Array Slot) (hP : va_P D vwCl (wP ad cy f t) H) (hP2 : va_P D vwCl (wR ad2 cy g u) H) (hS : va_S (fun q : Nat => s.heap.size ≤ q) s.heap H locs) (hl : lv_has ls 4 [(0, .ref b), (1, .ref (ad 0)), (2, .ref (ad2 0)), (3, .int x3)]) : W p l e room_1 s m #[Value.ref b] below meth c H locs 63 7246 (lw_Z below #[Value.ref b] s) (F0 m 220 ls []) := by
  obtain ⟨hx, hb, hr, hml, hown, hts0, hX, hbl, hlocks, hgv⟩ := id C0
  have hts : ∀ w ∈ wsL_law, w.before #[Value.ref b] s = true := fun w h => hts0 w (wsL_law_in w h)
  have hown : s.vm.findClass RL = some m.cls := hown
  have hbA : ¬ (fun q : Nat => s.heap.size ≤ q) b := Nat.not_le.mpr hbl
  have hA1 : ∀ q, aP ad q → s.heap.size ≤ q := fun q ⟨k, h1, h2⟩ => by rw [h2]; exact hup k h1
  have hA2 : ∀ q, aR ad2 q → s.heap.size ≤ q := fun q ⟨k, h1, h2⟩ => by rw [h2]; exact hup2 k h1
  have hd1 : ∀ (g : mM) (u : Int64) (k : Nat) (x : Nat × va_E), (wR ad2 cy g u)[k]? = some x → ¬ aP ad x.1 := fun g u k x hx => by
    obtain ⟨k2, h1, h2⟩ := (dR hj2 g u).2 k x hx
    rintro ⟨k1, h3, h4⟩
    exact hdj k1 k2 h3 h1 (by rw [← h4, ← h2])
  have hd2 : ∀ (f : mM) (t : Int64) (k : Nat) (x : Nat × va_E), (wP ad cy f t)[k]? = some x → ¬ aR ad2 x.1 := fun f t k x hx => by
    obtain ⟨k1, h1, h2⟩ := (dP hj f t).2 k x hx
    rintro ⟨k2, h3, h4⟩
    exact hdj k1 k2 h1 h3 (by rw [← h2, ← h4])
  obtain ⟨r, f', g', hq1, hq2, hI⟩ := hs f t g u hI
  refine lv_aload_n hx hb dL_law_220 rfl (lv_at hl 1 rfl) ?_
  refine lc_vi (As := []) (rest := []) xP_S hA1 (hd1 g u) ⟨hx, hb, hml, hown, hts⟩ hK hX0 hS hP hP2 (c_X9_marsh hj l N f t r f' hq1) (cwV 0 hts gL_law_X9_marsh rfl rfl rfl (by decide +kernel) ⟨Nat.le_of_ble_eq_true rfl, Nat.le_of_ble_eq_true rfl⟩) (va_recv hK hP (ci := 9) (q0 := 0) rfl rfl) rfl hl.1 rfl (Nat.le_of_ble_eq_true rfl) ⟨Nat.le_of_ble_eq_true rfl, Nat.le_of_ble_eq_true rfl⟩ dL_law_221 (fun H locs hP hP2 hS => ?_)
  refine lv_aload_n hx hb dL_law_224 rfl (lv_at hl 2 rfl) ?_
  refine lc_vi (As := []) (rest := [.int r]) xR_S hA2 (hd2 f' t) ⟨hx, hb, hml, hown, hts⟩ hK trivial hS hP2 hP (c_X10_marsh hj2 l N g u r g' hq2) (cwV 0 hts gL_law_X10_marsh rfl rfl rfl (by decide +kernel) ⟨Nat.le_of_ble_eq_true rfl, Nat.le_of_ble_eq_true rfl⟩) (va_recv hK hP2 (ci := 10) (q0 := 0) rfl rfl) rfl hl.1 rfl (Nat.le_of_ble_eq_true rfl) ⟨Nat.le_of_ble_eq_true rfl, Nat.le_of_ble_eq_true rfl⟩ dL_law_225 (fun H locs hP2 hP hS => ?_)
  refine lv_icmp_eq (tgt := 888) hx hb dL_law_228 (by decide) (fun _ => ?_) (fun h => absurd rfl h)
  exact kk f' t g' u hI H locs ls hP hP2 hS hl
set_option maxHeartbeats 4000000 in
set_option maxRecDepth 100000 in
theorem law_plank {p : Program} {l : Launch} {e : Env} {s : State} {m : MethodId} {below : List Frame} {meth : Method} {c : Code} {D : va_G} {cy : Nat → ClassId} {ad ad2 sk sv : Nat → Nat} {b L : Nat} {xs : Nat → Int32} (C0 : lw_At p s m meth c b L xs) (hj : jP ad) (hj2 : jR ad2) (hdj : ∀ i j : Nat, i < 44 → j < 19 → ad i ≠ ad2 j) (hup : ∀ i : Nat, i < 44 → s.heap.size ≤ ad i) (hup2 : ∀ i : Nat, i < 19 → s.heap.size ≤ ad2 i) (hK : va_K D vwCl (tyA cy) s) (hX0 : xP ad sk sv s) {I : mM → Int64 → mM → Int64 → Prop} {N : Nat} (hs : S_plank I N) {x3 : Int32} (hin1 : vp_in (x3 + 1) L) (hin2 : vp_in (x3 + 2) L) (kk : ∀ (f : mM) (t : Int64) (g : mM) (u : Int64), I f t g u → ∀ (H : Heap) (locs : List Loc) (ls : Array Slot), va_P D vwCl (wP ad cy f t) H → va_P D vwCl (wR ad2 cy g u) H → va_S (fun q : Nat => s.heap.size ≤ q) s.heap H locs → lv_has ls 4 [(0, .ref b), (1, .ref (ad 0)), (2, .ref (ad2 0)), (3, .int x3)] → W p l e room_1 s m #[Value.ref b] below meth c H locs 63 7246 (lw_Z below #[Value.ref b] s) (F0 m 888 ls [])) (f : mM) (t : Int64) (g : mM) (u : Int64) (hI : I f t g u) (H : Heap) (locs : List Loc) (ls : Array Slot) (hP : va_P D vwCl (wP ad cy f t) H) (hP2 : va_P D vwCl (wR ad2 cy g u) H) (hS : va_S (fun q : Nat => s.heap.size ≤ q) s.heap H locs) (hl : lv_has ls 4 [(0, .ref b), (1, .ref (ad 0)), (2, .ref (ad2 0)), (3, .int x3)]) : W p l e room_1 s m #[Value.ref b] below meth c H locs 63 7246 (lw_Z below #[Value.ref b] s) (F0 m 233 ls []) := by
  obtain ⟨hx, hb, hr, hml, hown, hts0, hX, hbl, hlocks, hgv⟩ := id C0
  have hts : ∀ w ∈ wsL_law, w.before #[Value.ref b] s = true := fun w h => hts0 w (wsL_law_in w h)
  have hown : s.vm.findClass RL = some m.cls := hown
  have hbA : ¬ (fun q : Nat => s.heap.size ≤ q) b := Nat.not_le.mpr hbl
  have hA1 : ∀ q, aP ad q → s.heap.size ≤ q := fun q ⟨k, h1, h2⟩ => by rw [h2]; exact hup k h1
  have hA2 : ∀ q, aR ad2 q → s.heap.size ≤ q := fun q ⟨k, h1, h2⟩ => by rw [h2]; exact hup2 k h1
  have hd1 : ∀ (g : mM) (u : Int64) (k : Nat) (x : Nat × va_E), (wR ad2 cy g u)[k]? = some x → ¬ aP ad x.1 := fun g u k x hx => by
    obtain ⟨k2, h1, h2⟩ := (dR hj2 g u).2 k x hx
    rintro ⟨k1, h3, h4⟩
    exact hdj k1 k2 h3 h1 (by rw [← h4, ← h2])
  have hd2 : ∀ (f : mM) (t : Int64) (k : Nat) (x : Nat × va_E), (wP ad cy f t)[k]? = some x → ¬ aR ad2 x.1 := fun f t k x hx => by
    obtain ⟨k1, h1, h2⟩ := (dP hj f t).2 k x hx
    rintro ⟨k2, h3, h4⟩
    exact hdj k1 k2 h1 h3 (by rw [← h2, ← h4])
  obtain ⟨r, g', hq1, hq2, hI⟩ := hs f t g u hI (xs (Int32.toNatClampNeg (x3 + 1))) (xs (Int32.toNatClampNeg (x3 + 2)))
  refine lv_aload_n hx hb dL_law_233 rfl (lv_at hl 1 rfl) ?_
  refine lv_aload_n hx hb dL_law_234 rfl (lv_at hl 0 rfl) ?_
  refine lv_iload_n hx hb dL_law_235 rfl (lv_at hl 3 rfl) ?_
  refine lv_iconst (v := 1) hx hb dL_law_236 (by decide) ?_
  refine lv_iadd hx hb dL_law_237 ?_
  refine va_sld hx hb hX hbl hbA hS hin1 dL_law_238 ?_
  refine lv_aload_n hx hb dL_law_239 rfl (lv_at hl 0 rfl) ?_
  refine lv_iload_n hx hb dL_law_240 rfl (lv_at hl 3 rfl) ?_
  refine lv_iconst (v := 2) hx hb dL_law_241 (by decide) ?_
  refine lv_iadd hx hb dL_law_242 ?_
  refine va_sld hx hb hX hbl hbA hS hin2 dL_law_243 ?_
  refine lc_vi (As := [.int (xs (Int32.toNatClampNeg (x3 + 1))), .int (xs (Int32.toNatClampNeg (x3 + 2)))]) (rest := []) xP_S hA1 (hd1 g u) ⟨hx, hb, hml, hown, hts⟩ hK hX0 hS hP hP2 (c_X9_plank hj l (xs (Int32.toNatClampNeg (x3 + 1))) (xs (Int32.toNatClampNeg (x3 + 2))) f t r hq1) (cwV 2 hts gL_law_X9_plank rfl rfl rfl (by decide +kernel) ⟨Nat.le_of_ble_eq_true rfl, Nat.le_of_ble_eq_true rfl⟩) (va_recv hK hP (ci := 9) (q0 := 0) rfl rfl) rfl hl.1 rfl (Nat.le_of_ble_eq_true rfl) ⟨Nat.le_of_ble_eq_true rfl, Nat.le_of_ble_eq_true rfl⟩ dL_law_244 (fun H locs hP hP2 hS => ?_)
  refine lv_aload_n hx hb dL_law_247 rfl (lv_at hl 2 rfl) ?_
  refine lv_aload_n hx hb dL_law_248 rfl (lv_at hl 0 rfl) ?_
  refine lv_iload_n hx hb dL_law_249 rfl (lv_at hl 3 rfl) ?_
  refine lv_iconst (v := 1) hx hb dL_law_250 (by decide) ?_
  refine lv_iadd hx hb dL_law_251 ?_
  refine va_sld hx hb hX hbl hbA hS hin1 dL_law_252 ?_
  refine lv_aload_n hx hb dL_law_253 rfl (lv_at hl 0 rfl) ?_
  refine lv_iload_n hx hb dL_law_254 rfl (lv_at hl 3 rfl) ?_
  refine lv_iconst (v := 2) hx hb dL_law_255 (by decide) ?_
  refine lv_iadd hx hb dL_law_256 ?_
  refine va_sld hx hb hX hbl hbA hS hin2 dL_law_257 ?_
  refine lc_vi (As := [.int (xs (Int32.toNatClampNeg (x3 + 1))), .int (xs (Int32.toNatClampNeg (x3 + 2)))]) (rest := [.int r]) xR_S hA2 (hd2 f t) ⟨hx, hb, hml, hown, hts⟩ hK trivial hS hP2 hP (c_X10_plank hj2 l (xs (Int32.toNatClampNeg (x3 + 1))) (xs (Int32.toNatClampNeg (x3 + 2))) g u r g' hq2) (cwV 2 hts gL_law_X10_plank rfl rfl rfl (by decide +kernel) ⟨Nat.le_of_ble_eq_true rfl, Nat.le_of_ble_eq_true rfl⟩) (va_recv hK hP2 (ci := 10) (q0 := 0) rfl rfl) rfl hl.1 rfl (Nat.le_of_ble_eq_true rfl) ⟨Nat.le_of_ble_eq_true rfl, Nat.le_of_ble_eq_true rfl⟩ dL_law_258 (fun H locs hP2 hP hS => ?_)
  refine lv_icmp_eq (tgt := 888) hx hb dL_law_261 (by decide) (fun _ => ?_) (fun h => absurd rfl h)
  exact kk f t g' u hI H locs ls hP hP2 hS hl
set_option maxHeartbeats 4000000 in
set_option maxRecDepth 100000 in
theorem law_person {p : Program} {l : Launch} {e : Env} {s : State} {m : MethodId} {below : List Frame} {meth : Method} {c : Code} {D : va_G} {cy : Nat → ClassId} {ad ad2 sk sv : Nat → Nat} {b L : Nat} {xs : Nat → Int32} (C0 : lw_At p s m meth c b L xs) (hj : jP ad) (hj2 : jR ad2) (hdj : ∀ i j : Nat, i < 44 → j < 19 → ad i ≠ ad2 j) (hup : ∀ i : Nat, i < 44 → s.heap.size ≤ ad i) (hup2 : ∀ i : Nat, i < 19 → s.heap.size ≤ ad2 i) (hK : va_K D vwCl (tyA cy) s) (hX0 : xP ad sk sv s) {I : mM → Int64 → mM → Int64 → Prop} {N : Nat} (hs : S_person I N) {x3 : Int32} (hin1 : vp_in (x3 + 1) L) (hin2 : vp_in (x3 + 2) L) (kk : ∀ (f : mM) (t : Int64) (g : mM) (u : Int64), I f t g u → ∀ (H : Heap) (locs : List Loc) (ls : Array Slot), va_P D vwCl (wP ad cy f t) H → va_P D vwCl (wR ad2 cy g u) H → va_S (fun q : Nat => s.heap.size ≤ q) s.heap H locs → lv_has ls 4 [(0, .ref b), (1, .ref (ad 0)), (2, .ref (ad2 0)), (3, .int x3)] → W p l e room_1 s m #[Value.ref b] below meth c H locs 63 7246 (lw_Z below #[Value.ref b] s) (F0 m 888 ls [])) (f : mM) (t : Int64) (g : mM) (u : Int64) (hI : I f t g u) (H : Heap) (locs : List Loc) (ls : Array Slot) (hP : va_P D vwCl (wP ad cy f t) H) (hP2 : va_P D vwCl (wR ad2 cy g u) H) (hS : va_S (fun q : Nat => s.heap.size ≤ q) s.heap H locs) (hl : lv_has ls 4 [(0, .ref b), (1, .ref (ad 0)), (2, .ref (ad2 0)), (3, .int x3)]) : W p l e room_1 s m #[Value.ref b] below meth c H locs 63 7246 (lw_Z below #[Value.ref b] s) (F0 m 266 ls []) := by
  obtain ⟨hx, hb, hr, hml, hown, hts0, hX, hbl, hlocks, hgv⟩ := id C0
  have hts : ∀ w ∈ wsL_law, w.before #[Value.ref b] s = true := fun w h => hts0 w (wsL_law_in w h)
  have hown : s.vm.findClass RL = some m.cls := hown
  have hbA : ¬ (fun q : Nat => s.heap.size ≤ q) b := Nat.not_le.mpr hbl
  have hA1 : ∀ q, aP ad q → s.heap.size ≤ q := fun q ⟨k, h1, h2⟩ => by rw [h2]; exact hup k h1
  have hA2 : ∀ q, aR ad2 q → s.heap.size ≤ q := fun q ⟨k, h1, h2⟩ => by rw [h2]; exact hup2 k h1
  have hd1 : ∀ (g : mM) (u : Int64) (k : Nat) (x : Nat × va_E), (wR ad2 cy g u)[k]? = some x → ¬ aP ad x.1 := fun g u k x hx => by
    obtain ⟨k2, h1, h2⟩ := (dR hj2 g u).2 k x hx
    rintro ⟨k1, h3, h4⟩
    exact hdj k1 k2 h3 h1 (by rw [← h4, ← h2])
  have hd2 : ∀ (f : mM) (t : Int64) (k : Nat) (x : Nat × va_E), (wP ad cy f t)[k]? = some x → ¬ aR ad2 x.1 := fun f t k x hx => by
    obtain ⟨k1, h1, h2⟩ := (dP hj f t).2 k x hx
    rintro ⟨k2, h3, h4⟩
    exact hdj k1 k2 h1 h3 (by rw [← h2, ← h4])
  obtain ⟨r, g', hq1, hq2, hI⟩ := hs f t g u hI (xs (Int32.toNatClampNeg (x3 + 1))) (xs (Int32.toNatClampNeg (x3 + 2)))
  refine lv_aload_n hx hb dL_law_266 rfl (lv_at hl 1 rfl) ?_
  refine lv_aload_n hx hb dL_law_267 rfl (lv_at hl 0 rfl) ?_
  refine lv_iload_n hx hb dL_law_268 rfl (lv_at hl 3 rfl) ?_
  refine lv_iconst (v := 1) hx hb dL_law_269 (by decide) ?_
  refine lv_iadd hx hb dL_law_270 ?_
  refine va_sld hx hb hX hbl hbA hS hin1 dL_law_271 ?_
  refine lv_aload_n hx hb dL_law_272 rfl (lv_at hl 0 rfl) ?_
  refine lv_iload_n hx hb dL_law_273 rfl (lv_at hl 3 rfl) ?_
  refine lv_iconst (v := 2) hx hb dL_law_274 (by decide) ?_
  refine lv_iadd hx hb dL_law_275 ?_
  refine va_sld hx hb hX hbl hbA hS hin2 dL_law_276 ?_
  refine lc_vi (As := [.int (xs (Int32.toNatClampNeg (x3 + 1))), .int (xs (Int32.toNatClampNeg (x3 + 2)))]) (rest := []) xP_S hA1 (hd1 g u) ⟨hx, hb, hml, hown, hts⟩ hK hX0 hS hP hP2 (c_X9_person hj l (xs (Int32.toNatClampNeg (x3 + 1))) (xs (Int32.toNatClampNeg (x3 + 2))) f t r hq1) (cwV 2 hts gL_law_X9_person rfl rfl rfl (by decide +kernel) ⟨Nat.le_of_ble_eq_true rfl, Nat.le_of_ble_eq_true rfl⟩) (va_recv hK hP (ci := 9) (q0 := 0) rfl rfl) rfl hl.1 rfl (Nat.le_of_ble_eq_true rfl) ⟨Nat.le_of_ble_eq_true rfl, Nat.le_of_ble_eq_true rfl⟩ dL_law_277 (fun H locs hP hP2 hS => ?_)
  refine lv_aload_n hx hb dL_law_280 rfl (lv_at hl 2 rfl) ?_
  refine lv_aload_n hx hb dL_law_281 rfl (lv_at hl 0 rfl) ?_
  refine lv_iload_n hx hb dL_law_282 rfl (lv_at hl 3 rfl) ?_
  refine lv_iconst (v := 1) hx hb dL_law_283 (by decide) ?_
  refine lv_iadd hx hb dL_law_284 ?_
  refine va_sld hx hb hX hbl hbA hS hin1 dL_law_285 ?_
  refine lv_aload_n hx hb dL_law_286 rfl (lv_at hl 0 rfl) ?_
  refine lv_iload_n hx hb dL_law_287 rfl (lv_at hl 3 rfl) ?_
  refine lv_iconst (v := 2) hx hb dL_law_288 (by decide) ?_
  refine lv_iadd hx hb dL_law_289 ?_
  refine va_sld hx hb hX hbl hbA hS hin2 dL_law_290 ?_
  refine lc_vi (As := [.int (xs (Int32.toNatClampNeg (x3 + 1))), .int (xs (Int32.toNatClampNeg (x3 + 2)))]) (rest := [.int r]) xR_S hA2 (hd2 f t) ⟨hx, hb, hml, hown, hts⟩ hK trivial hS hP2 hP (c_X10_person hj2 l (xs (Int32.toNatClampNeg (x3 + 1))) (xs (Int32.toNatClampNeg (x3 + 2))) g u r g' hq2) (cwV 2 hts gL_law_X10_person rfl rfl rfl (by decide +kernel) ⟨Nat.le_of_ble_eq_true rfl, Nat.le_of_ble_eq_true rfl⟩) (va_recv hK hP2 (ci := 10) (q0 := 0) rfl rfl) rfl hl.1 rfl (Nat.le_of_ble_eq_true rfl) ⟨Nat.le_of_ble_eq_true rfl, Nat.le_of_ble_eq_true rfl⟩ dL_law_291 (fun H locs hP2 hP hS => ?_)
  refine lv_icmp_eq (tgt := 888) hx hb dL_law_294 (by decide) (fun _ => ?_) (fun h => absurd rfl h)
  exact kk f t g' u hI H locs ls hP hP2 hS hl
set_option maxHeartbeats 4000000 in
set_option maxRecDepth 100000 in
theorem law_errand {p : Program} {l : Launch} {e : Env} {s : State} {m : MethodId} {below : List Frame} {meth : Method} {c : Code} {D : va_G} {cy : Nat → ClassId} {ad ad2 sk sv : Nat → Nat} {b L : Nat} {xs : Nat → Int32} (C0 : lw_At p s m meth c b L xs) (hj : jP ad) (hj2 : jR ad2) (hdj : ∀ i j : Nat, i < 44 → j < 19 → ad i ≠ ad2 j) (hup : ∀ i : Nat, i < 44 → s.heap.size ≤ ad i) (hup2 : ∀ i : Nat, i < 19 → s.heap.size ≤ ad2 i) (hK : va_K D vwCl (tyA cy) s) (hX0 : xP ad sk sv s) {I : mM → Int64 → mM → Int64 → Prop} {N : Nat} (hs : S_errand I N) {x3 : Int32} (hin1 : vp_in (x3 + 1) L) (hin2 : vp_in (x3 + 2) L) (kk : ∀ (f : mM) (t : Int64) (g : mM) (u : Int64), I f t g u → ∀ (H : Heap) (locs : List Loc) (ls : Array Slot), va_P D vwCl (wP ad cy f t) H → va_P D vwCl (wR ad2 cy g u) H → va_S (fun q : Nat => s.heap.size ≤ q) s.heap H locs → lv_has ls 4 [(0, .ref b), (1, .ref (ad 0)), (2, .ref (ad2 0)), (3, .int x3)] → W p l e room_1 s m #[Value.ref b] below meth c H locs 63 7246 (lw_Z below #[Value.ref b] s) (F0 m 888 ls [])) (f : mM) (t : Int64) (g : mM) (u : Int64) (hI : I f t g u) (H : Heap) (locs : List Loc) (ls : Array Slot) (hP : va_P D vwCl (wP ad cy f t) H) (hP2 : va_P D vwCl (wR ad2 cy g u) H) (hS : va_S (fun q : Nat => s.heap.size ≤ q) s.heap H locs) (hl : lv_has ls 4 [(0, .ref b), (1, .ref (ad 0)), (2, .ref (ad2 0)), (3, .int x3)]) : W p l e room_1 s m #[Value.ref b] below meth c H locs 63 7246 (lw_Z below #[Value.ref b] s) (F0 m 299 ls []) := by
  obtain ⟨hx, hb, hr, hml, hown, hts0, hX, hbl, hlocks, hgv⟩ := id C0
  have hts : ∀ w ∈ wsL_law, w.before #[Value.ref b] s = true := fun w h => hts0 w (wsL_law_in w h)
  have hown : s.vm.findClass RL = some m.cls := hown
  have hbA : ¬ (fun q : Nat => s.heap.size ≤ q) b := Nat.not_le.mpr hbl
  have hA1 : ∀ q, aP ad q → s.heap.size ≤ q := fun q ⟨k, h1, h2⟩ => by rw [h2]; exact hup k h1
  have hA2 : ∀ q, aR ad2 q → s.heap.size ≤ q := fun q ⟨k, h1, h2⟩ => by rw [h2]; exact hup2 k h1
  have hd1 : ∀ (g : mM) (u : Int64) (k : Nat) (x : Nat × va_E), (wR ad2 cy g u)[k]? = some x → ¬ aP ad x.1 := fun g u k x hx => by
    obtain ⟨k2, h1, h2⟩ := (dR hj2 g u).2 k x hx
    rintro ⟨k1, h3, h4⟩
    exact hdj k1 k2 h3 h1 (by rw [← h4, ← h2])
  have hd2 : ∀ (f : mM) (t : Int64) (k : Nat) (x : Nat × va_E), (wP ad cy f t)[k]? = some x → ¬ aR ad2 x.1 := fun f t k x hx => by
    obtain ⟨k1, h1, h2⟩ := (dP hj f t).2 k x hx
    rintro ⟨k2, h3, h4⟩
    exact hdj k1 k2 h1 h3 (by rw [← h2, ← h4])
  obtain ⟨r, g', hq1, hq2, hI⟩ := hs f t g u hI (xs (Int32.toNatClampNeg (x3 + 1))) (xs (Int32.toNatClampNeg (x3 + 2)))
  refine lv_aload_n hx hb dL_law_299 rfl (lv_at hl 1 rfl) ?_
  refine lv_aload_n hx hb dL_law_300 rfl (lv_at hl 0 rfl) ?_
  refine lv_iload_n hx hb dL_law_301 rfl (lv_at hl 3 rfl) ?_
  refine lv_iconst (v := 1) hx hb dL_law_302 (by decide) ?_
  refine lv_iadd hx hb dL_law_303 ?_
  refine va_sld hx hb hX hbl hbA hS hin1 dL_law_304 ?_
  refine lv_aload_n hx hb dL_law_305 rfl (lv_at hl 0 rfl) ?_
  refine lv_iload_n hx hb dL_law_306 rfl (lv_at hl 3 rfl) ?_
  refine lv_iconst (v := 2) hx hb dL_law_307 (by decide) ?_
  refine lv_iadd hx hb dL_law_308 ?_
  refine va_sld hx hb hX hbl hbA hS hin2 dL_law_309 ?_
  refine lc_vi (As := [.int (xs (Int32.toNatClampNeg (x3 + 1))), .int (xs (Int32.toNatClampNeg (x3 + 2)))]) (rest := []) xP_S hA1 (hd1 g u) ⟨hx, hb, hml, hown, hts⟩ hK hX0 hS hP hP2 (c_X9_errand hj l (xs (Int32.toNatClampNeg (x3 + 1))) (xs (Int32.toNatClampNeg (x3 + 2))) f t r hq1) (cwV 2 hts gL_law_X9_errand rfl rfl rfl (by decide +kernel) ⟨Nat.le_of_ble_eq_true rfl, Nat.le_of_ble_eq_true rfl⟩) (va_recv hK hP (ci := 9) (q0 := 0) rfl rfl) rfl hl.1 rfl (Nat.le_of_ble_eq_true rfl) ⟨Nat.le_of_ble_eq_true rfl, Nat.le_of_ble_eq_true rfl⟩ dL_law_310 (fun H locs hP hP2 hS => ?_)
  refine lv_aload_n hx hb dL_law_313 rfl (lv_at hl 2 rfl) ?_
  refine lv_aload_n hx hb dL_law_314 rfl (lv_at hl 0 rfl) ?_
  refine lv_iload_n hx hb dL_law_315 rfl (lv_at hl 3 rfl) ?_
  refine lv_iconst (v := 1) hx hb dL_law_316 (by decide) ?_
  refine lv_iadd hx hb dL_law_317 ?_
  refine va_sld hx hb hX hbl hbA hS hin1 dL_law_318 ?_
  refine lv_aload_n hx hb dL_law_319 rfl (lv_at hl 0 rfl) ?_
  refine lv_iload_n hx hb dL_law_320 rfl (lv_at hl 3 rfl) ?_
  refine lv_iconst (v := 2) hx hb dL_law_321 (by decide) ?_
  refine lv_iadd hx hb dL_law_322 ?_
  refine va_sld hx hb hX hbl hbA hS hin2 dL_law_323 ?_
  refine lc_vi (As := [.int (xs (Int32.toNatClampNeg (x3 + 1))), .int (xs (Int32.toNatClampNeg (x3 + 2)))]) (rest := [.int r]) xR_S hA2 (hd2 f t) ⟨hx, hb, hml, hown, hts⟩ hK trivial hS hP2 hP (c_X10_errand hj2 l (xs (Int32.toNatClampNeg (x3 + 1))) (xs (Int32.toNatClampNeg (x3 + 2))) g u r g' hq2) (cwV 2 hts gL_law_X10_errand rfl rfl rfl (by decide +kernel) ⟨Nat.le_of_ble_eq_true rfl, Nat.le_of_ble_eq_true rfl⟩) (va_recv hK hP2 (ci := 10) (q0 := 0) rfl rfl) rfl hl.1 rfl (Nat.le_of_ble_eq_true rfl) ⟨Nat.le_of_ble_eq_true rfl, Nat.le_of_ble_eq_true rfl⟩ dL_law_324 (fun H locs hP2 hP hS => ?_)
  refine lv_icmp_eq (tgt := 888) hx hb dL_law_327 (by decide) (fun _ => ?_) (fun h => absurd rfl h)
  exact kk f t g' u hI H locs ls hP hP2 hS hl
set_option maxHeartbeats 4000000 in
set_option maxRecDepth 100000 in
theorem law_way {p : Program} {l : Launch} {e : Env} {s : State} {m : MethodId} {below : List Frame} {meth : Method} {c : Code} {D : va_G} {cy : Nat → ClassId} {ad ad2 sk sv : Nat → Nat} {b L : Nat} {xs : Nat → Int32} (C0 : lw_At p s m meth c b L xs) (hj : jP ad) (hj2 : jR ad2) (hdj : ∀ i j : Nat, i < 44 → j < 19 → ad i ≠ ad2 j) (hup : ∀ i : Nat, i < 44 → s.heap.size ≤ ad i) (hup2 : ∀ i : Nat, i < 19 → s.heap.size ≤ ad2 i) (hK : va_K D vwCl (tyA cy) s) (hX0 : xP ad sk sv s) {I : mM → Int64 → mM → Int64 → Prop} {N : Nat} (hs : S_way I N) {x3 : Int32} (hin1 : vp_in (x3 + 1) L) (hin2 : vp_in (x3 + 2) L) (hin3 : vp_in (x3 + 3) L) (hin4 : vp_in (x3 + 4) L) (kk : ∀ (f : mM) (t : Int64) (g : mM) (u : Int64), I f t g u → ∀ (H : Heap) (locs : List Loc) (ls : Array Slot), va_P D vwCl (wP ad cy f t) H → va_P D vwCl (wR ad2 cy g u) H → va_S (fun q : Nat => s.heap.size ≤ q) s.heap H locs → lv_has ls 4 [(0, .ref b), (1, .ref (ad 0)), (2, .ref (ad2 0)), (3, .int x3)] → W p l e room_1 s m #[Value.ref b] below meth c H locs 63 7246 (lw_Z below #[Value.ref b] s) (F0 m 888 ls [])) (f : mM) (t : Int64) (g : mM) (u : Int64) (hI : I f t g u) (H : Heap) (locs : List Loc) (ls : Array Slot) (hP : va_P D vwCl (wP ad cy f t) H) (hP2 : va_P D vwCl (wR ad2 cy g u) H) (hS : va_S (fun q : Nat => s.heap.size ≤ q) s.heap H locs) (hl : lv_has ls 4 [(0, .ref b), (1, .ref (ad 0)), (2, .ref (ad2 0)), (3, .int x3)]) : W p l e room_1 s m #[Value.ref b] below meth c H locs 63 7246 (lw_Z below #[Value.ref b] s) (F0 m 332 ls []) := by
  obtain ⟨hx, hb, hr, hml, hown, hts0, hX, hbl, hlocks, hgv⟩ := id C0
  have hts : ∀ w ∈ wsL_law, w.before #[Value.ref b] s = true := fun w h => hts0 w (wsL_law_in w h)
  have hown : s.vm.findClass RL = some m.cls := hown
  have hbA : ¬ (fun q : Nat => s.heap.size ≤ q) b := Nat.not_le.mpr hbl
  have hA1 : ∀ q, aP ad q → s.heap.size ≤ q := fun q ⟨k, h1, h2⟩ => by rw [h2]; exact hup k h1
  have hA2 : ∀ q, aR ad2 q → s.heap.size ≤ q := fun q ⟨k, h1, h2⟩ => by rw [h2]; exact hup2 k h1
  have hd1 : ∀ (g : mM) (u : Int64) (k : Nat) (x : Nat × va_E), (wR ad2 cy g u)[k]? = some x → ¬ aP ad x.1 := fun g u k x hx => by
    obtain ⟨k2, h1, h2⟩ := (dR hj2 g u).2 k x hx
    rintro ⟨k1, h3, h4⟩
    exact hdj k1 k2 h3 h1 (by rw [← h4, ← h2])
  have hd2 : ∀ (f : mM) (t : Int64) (k : Nat) (x : Nat × va_E), (wP ad cy f t)[k]? = some x → ¬ aR ad2 x.1 := fun f t k x hx => by
    obtain ⟨k1, h1, h2⟩ := (dP hj f t).2 k x hx
    rintro ⟨k2, h3, h4⟩
    exact hdj k1 k2 h1 h3 (by rw [← h2, ← h4])
  obtain ⟨r, f', g', hq1, hq2, hI⟩ := hs f t g u hI (xs (Int32.toNatClampNeg (x3 + 1))) (xs (Int32.toNatClampNeg (x3 + 2))) (xs (Int32.toNatClampNeg (x3 + 3))) (xs (Int32.toNatClampNeg (x3 + 4)))
  refine lv_aload_n hx hb dL_law_332 rfl (lv_at hl 1 rfl) ?_
  refine lv_aload_n hx hb dL_law_333 rfl (lv_at hl 0 rfl) ?_
  refine lv_iload_n hx hb dL_law_334 rfl (lv_at hl 3 rfl) ?_
  refine lv_iconst (v := 1) hx hb dL_law_335 (by decide) ?_
  refine lv_iadd hx hb dL_law_336 ?_
  refine va_sld hx hb hX hbl hbA hS hin1 dL_law_337 ?_
  refine lv_aload_n hx hb dL_law_338 rfl (lv_at hl 0 rfl) ?_
  refine lv_iload_n hx hb dL_law_339 rfl (lv_at hl 3 rfl) ?_
  refine lv_iconst (v := 2) hx hb dL_law_340 (by decide) ?_
  refine lv_iadd hx hb dL_law_341 ?_
  refine va_sld hx hb hX hbl hbA hS hin2 dL_law_342 ?_
  refine lv_aload_n hx hb dL_law_343 rfl (lv_at hl 0 rfl) ?_
  refine lv_iload_n hx hb dL_law_344 rfl (lv_at hl 3 rfl) ?_
  refine lv_iconst (v := 3) hx hb dL_law_345 (by decide) ?_
  refine lv_iadd hx hb dL_law_346 ?_
  refine va_sld hx hb hX hbl hbA hS hin3 dL_law_347 ?_
  refine lv_aload_n hx hb dL_law_348 rfl (lv_at hl 0 rfl) ?_
  refine lv_iload_n hx hb dL_law_349 rfl (lv_at hl 3 rfl) ?_
  refine lv_iconst (v := 4) hx hb dL_law_350 (by decide) ?_
  refine lv_iadd hx hb dL_law_351 ?_
  refine va_sld hx hb hX hbl hbA hS hin4 dL_law_352 ?_
  refine lc_vi (As := [.int (xs (Int32.toNatClampNeg (x3 + 1))), .int (xs (Int32.toNatClampNeg (x3 + 2))), .int (xs (Int32.toNatClampNeg (x3 + 3))), .int (xs (Int32.toNatClampNeg (x3 + 4)))]) (rest := []) xP_S hA1 (hd1 g u) ⟨hx, hb, hml, hown, hts⟩ hK hX0 hS hP hP2 (c_X9_way hj l N (xs (Int32.toNatClampNeg (x3 + 1))) (xs (Int32.toNatClampNeg (x3 + 2))) (xs (Int32.toNatClampNeg (x3 + 3))) (xs (Int32.toNatClampNeg (x3 + 4))) f t r f' hq1) (cwV 4 hts gL_law_X9_way rfl rfl rfl (by decide +kernel) ⟨Nat.le_of_ble_eq_true rfl, Nat.le_of_ble_eq_true rfl⟩) (va_recv hK hP (ci := 9) (q0 := 0) rfl rfl) rfl hl.1 rfl (Nat.le_of_ble_eq_true rfl) ⟨Nat.le_of_ble_eq_true rfl, Nat.le_of_ble_eq_true rfl⟩ dL_law_353 (fun H locs hP hP2 hS => ?_)
  refine lv_aload_n hx hb dL_law_356 rfl (lv_at hl 2 rfl) ?_
  refine lv_aload_n hx hb dL_law_357 rfl (lv_at hl 0 rfl) ?_
  refine lv_iload_n hx hb dL_law_358 rfl (lv_at hl 3 rfl) ?_
  refine lv_iconst (v := 1) hx hb dL_law_359 (by decide) ?_
  refine lv_iadd hx hb dL_law_360 ?_
  refine va_sld hx hb hX hbl hbA hS hin1 dL_law_361 ?_
  refine lv_aload_n hx hb dL_law_362 rfl (lv_at hl 0 rfl) ?_
  refine lv_iload_n hx hb dL_law_363 rfl (lv_at hl 3 rfl) ?_
  refine lv_iconst (v := 2) hx hb dL_law_364 (by decide) ?_
  refine lv_iadd hx hb dL_law_365 ?_
  refine va_sld hx hb hX hbl hbA hS hin2 dL_law_366 ?_
  refine lv_aload_n hx hb dL_law_367 rfl (lv_at hl 0 rfl) ?_
  refine lv_iload_n hx hb dL_law_368 rfl (lv_at hl 3 rfl) ?_
  refine lv_iconst (v := 3) hx hb dL_law_369 (by decide) ?_
  refine lv_iadd hx hb dL_law_370 ?_
  refine va_sld hx hb hX hbl hbA hS hin3 dL_law_371 ?_
  refine lv_aload_n hx hb dL_law_372 rfl (lv_at hl 0 rfl) ?_
  refine lv_iload_n hx hb dL_law_373 rfl (lv_at hl 3 rfl) ?_
  refine lv_iconst (v := 4) hx hb dL_law_374 (by decide) ?_
  refine lv_iadd hx hb dL_law_375 ?_
  refine va_sld hx hb hX hbl hbA hS hin4 dL_law_376 ?_
  refine lc_vi (As := [.int (xs (Int32.toNatClampNeg (x3 + 1))), .int (xs (Int32.toNatClampNeg (x3 + 2))), .int (xs (Int32.toNatClampNeg (x3 + 3))), .int (xs (Int32.toNatClampNeg (x3 + 4)))]) (rest := [.int r]) xR_S hA2 (hd2 f' t) ⟨hx, hb, hml, hown, hts⟩ hK trivial hS hP2 hP (c_X10_way hj2 l N (xs (Int32.toNatClampNeg (x3 + 1))) (xs (Int32.toNatClampNeg (x3 + 2))) (xs (Int32.toNatClampNeg (x3 + 3))) (xs (Int32.toNatClampNeg (x3 + 4))) g u r g' hq2) (cwV 4 hts gL_law_X10_way rfl rfl rfl (by decide +kernel) ⟨Nat.le_of_ble_eq_true rfl, Nat.le_of_ble_eq_true rfl⟩) (va_recv hK hP2 (ci := 10) (q0 := 0) rfl rfl) rfl hl.1 rfl (Nat.le_of_ble_eq_true rfl) ⟨Nat.le_of_ble_eq_true rfl, Nat.le_of_ble_eq_true rfl⟩ dL_law_377 (fun H locs hP2 hP hS => ?_)
  refine lv_icmp_eq (tgt := 888) hx hb dL_law_380 (by decide) (fun _ => ?_) (fun h => absurd rfl h)
  exact kk f' t g' u hI H locs ls hP hP2 hS hl
set_option maxHeartbeats 4000000 in
set_option maxRecDepth 100000 in
theorem law_go {p : Program} {l : Launch} {e : Env} {s : State} {m : MethodId} {below : List Frame} {meth : Method} {c : Code} {D : va_G} {cy : Nat → ClassId} {ad ad2 sk sv : Nat → Nat} {b L : Nat} {xs : Nat → Int32} (C0 : lw_At p s m meth c b L xs) (hj : jP ad) (hj2 : jR ad2) (hdj : ∀ i j : Nat, i < 44 → j < 19 → ad i ≠ ad2 j) (hup : ∀ i : Nat, i < 44 → s.heap.size ≤ ad i) (hup2 : ∀ i : Nat, i < 19 → s.heap.size ≤ ad2 i) (hK : va_K D vwCl (tyA cy) s) (hX0 : xP ad sk sv s) {I : mM → Int64 → mM → Int64 → Prop} {N : Nat} (hs : S_go I N) {x3 : Int32} (hin1 : vp_in (x3 + 1) L) (hin2 : vp_in (x3 + 2) L) (hin3 : vp_in (x3 + 3) L) (kk : ∀ (f : mM) (t : Int64) (g : mM) (u : Int64), I f t g u → ∀ (H : Heap) (locs : List Loc) (ls : Array Slot), va_P D vwCl (wP ad cy f t) H → va_P D vwCl (wR ad2 cy g u) H → va_S (fun q : Nat => s.heap.size ≤ q) s.heap H locs → lv_has ls 4 [(0, .ref b), (1, .ref (ad 0)), (2, .ref (ad2 0)), (3, .int x3)] → W p l e room_1 s m #[Value.ref b] below meth c H locs 63 7246 (lw_Z below #[Value.ref b] s) (F0 m 888 ls [])) (f : mM) (t : Int64) (g : mM) (u : Int64) (hI : I f t g u) (H : Heap) (locs : List Loc) (ls : Array Slot) (hP : va_P D vwCl (wP ad cy f t) H) (hP2 : va_P D vwCl (wR ad2 cy g u) H) (hS : va_S (fun q : Nat => s.heap.size ≤ q) s.heap H locs) (hl : lv_has ls 4 [(0, .ref b), (1, .ref (ad 0)), (2, .ref (ad2 0)), (3, .int x3)]) : W p l e room_1 s m #[Value.ref b] below meth c H locs 63 7246 (lw_Z below #[Value.ref b] s) (F0 m 385 ls []) := by
  obtain ⟨hx, hb, hr, hml, hown, hts0, hX, hbl, hlocks, hgv⟩ := id C0
  have hts : ∀ w ∈ wsL_law, w.before #[Value.ref b] s = true := fun w h => hts0 w (wsL_law_in w h)
  have hown : s.vm.findClass RL = some m.cls := hown
  have hbA : ¬ (fun q : Nat => s.heap.size ≤ q) b := Nat.not_le.mpr hbl
  have hA1 : ∀ q, aP ad q → s.heap.size ≤ q := fun q ⟨k, h1, h2⟩ => by rw [h2]; exact hup k h1
  have hA2 : ∀ q, aR ad2 q → s.heap.size ≤ q := fun q ⟨k, h1, h2⟩ => by rw [h2]; exact hup2 k h1
  have hd1 : ∀ (g : mM) (u : Int64) (k : Nat) (x : Nat × va_E), (wR ad2 cy g u)[k]? = some x → ¬ aP ad x.1 := fun g u k x hx => by
    obtain ⟨k2, h1, h2⟩ := (dR hj2 g u).2 k x hx
    rintro ⟨k1, h3, h4⟩
    exact hdj k1 k2 h3 h1 (by rw [← h4, ← h2])
  have hd2 : ∀ (f : mM) (t : Int64) (k : Nat) (x : Nat × va_E), (wP ad cy f t)[k]? = some x → ¬ aR ad2 x.1 := fun f t k x hx => by
    obtain ⟨k1, h1, h2⟩ := (dP hj f t).2 k x hx
    rintro ⟨k2, h3, h4⟩
    exact hdj k1 k2 h1 h3 (by rw [← h2, ← h4])
  obtain ⟨r, f', g', hq1, hq2, hI⟩ := hs f t g u hI (xs (Int32.toNatClampNeg (x3 + 1))) (xs (Int32.toNatClampNeg (x3 + 2))) (xs (Int32.toNatClampNeg (x3 + 3)))
  refine lv_aload_n hx hb dL_law_385 rfl (lv_at hl 1 rfl) ?_
  refine lv_aload_n hx hb dL_law_386 rfl (lv_at hl 0 rfl) ?_
  refine lv_iload_n hx hb dL_law_387 rfl (lv_at hl 3 rfl) ?_
  refine lv_iconst (v := 1) hx hb dL_law_388 (by decide) ?_
  refine lv_iadd hx hb dL_law_389 ?_
  refine va_sld hx hb hX hbl hbA hS hin1 dL_law_390 ?_
  refine lv_aload_n hx hb dL_law_391 rfl (lv_at hl 0 rfl) ?_
  refine lv_iload_n hx hb dL_law_392 rfl (lv_at hl 3 rfl) ?_
  refine lv_iconst (v := 2) hx hb dL_law_393 (by decide) ?_
  refine lv_iadd hx hb dL_law_394 ?_
  refine va_sld hx hb hX hbl hbA hS hin2 dL_law_395 ?_
  refine lv_aload_n hx hb dL_law_396 rfl (lv_at hl 0 rfl) ?_
  refine lv_iload_n hx hb dL_law_397 rfl (lv_at hl 3 rfl) ?_
  refine lv_iconst (v := 3) hx hb dL_law_398 (by decide) ?_
  refine lv_iadd hx hb dL_law_399 ?_
  refine va_sld hx hb hX hbl hbA hS hin3 dL_law_400 ?_
  refine lc_vi (As := [.int (xs (Int32.toNatClampNeg (x3 + 1))), .int (xs (Int32.toNatClampNeg (x3 + 2))), .int (xs (Int32.toNatClampNeg (x3 + 3)))]) (rest := []) xP_S hA1 (hd1 g u) ⟨hx, hb, hml, hown, hts⟩ hK hX0 hS hP hP2 (c_X9_go hj l N (xs (Int32.toNatClampNeg (x3 + 1))) (xs (Int32.toNatClampNeg (x3 + 2))) (xs (Int32.toNatClampNeg (x3 + 3))) f t r f' hq1) (cwV 3 hts gL_law_X9_go rfl rfl rfl (by decide +kernel) ⟨Nat.le_of_ble_eq_true rfl, Nat.le_of_ble_eq_true rfl⟩) (va_recv hK hP (ci := 9) (q0 := 0) rfl rfl) rfl hl.1 rfl (Nat.le_of_ble_eq_true rfl) ⟨Nat.le_of_ble_eq_true rfl, Nat.le_of_ble_eq_true rfl⟩ dL_law_401 (fun H locs hP hP2 hS => ?_)
  refine lv_aload_n hx hb dL_law_404 rfl (lv_at hl 2 rfl) ?_
  refine lv_aload_n hx hb dL_law_405 rfl (lv_at hl 0 rfl) ?_
  refine lv_iload_n hx hb dL_law_406 rfl (lv_at hl 3 rfl) ?_
  refine lv_iconst (v := 1) hx hb dL_law_407 (by decide) ?_
  refine lv_iadd hx hb dL_law_408 ?_
  refine va_sld hx hb hX hbl hbA hS hin1 dL_law_409 ?_
  refine lv_aload_n hx hb dL_law_410 rfl (lv_at hl 0 rfl) ?_
  refine lv_iload_n hx hb dL_law_411 rfl (lv_at hl 3 rfl) ?_
  refine lv_iconst (v := 2) hx hb dL_law_412 (by decide) ?_
  refine lv_iadd hx hb dL_law_413 ?_
  refine va_sld hx hb hX hbl hbA hS hin2 dL_law_414 ?_
  refine lv_aload_n hx hb dL_law_415 rfl (lv_at hl 0 rfl) ?_
  refine lv_iload_n hx hb dL_law_416 rfl (lv_at hl 3 rfl) ?_
  refine lv_iconst (v := 3) hx hb dL_law_417 (by decide) ?_
  refine lv_iadd hx hb dL_law_418 ?_
  refine va_sld hx hb hX hbl hbA hS hin3 dL_law_419 ?_
  refine lc_vi (As := [.int (xs (Int32.toNatClampNeg (x3 + 1))), .int (xs (Int32.toNatClampNeg (x3 + 2))), .int (xs (Int32.toNatClampNeg (x3 + 3)))]) (rest := [.int r]) xR_S hA2 (hd2 f' t) ⟨hx, hb, hml, hown, hts⟩ hK trivial hS hP2 hP (c_X10_go hj2 l N (xs (Int32.toNatClampNeg (x3 + 1))) (xs (Int32.toNatClampNeg (x3 + 2))) (xs (Int32.toNatClampNeg (x3 + 3))) g u r g' hq2) (cwV 3 hts gL_law_X10_go rfl rfl rfl (by decide +kernel) ⟨Nat.le_of_ble_eq_true rfl, Nat.le_of_ble_eq_true rfl⟩) (va_recv hK hP2 (ci := 10) (q0 := 0) rfl rfl) rfl hl.1 rfl (Nat.le_of_ble_eq_true rfl) ⟨Nat.le_of_ble_eq_true rfl, Nat.le_of_ble_eq_true rfl⟩ dL_law_420 (fun H locs hP2 hP hS => ?_)
  refine lv_icmp_eq (tgt := 888) hx hb dL_law_423 (by decide) (fun _ => ?_) (fun h => absurd rfl h)
  exact kk f' t g' u hI H locs ls hP hP2 hS hl
set_option maxHeartbeats 4000000 in
set_option maxRecDepth 100000 in
theorem law_steps {p : Program} {l : Launch} {e : Env} {s : State} {m : MethodId} {below : List Frame} {meth : Method} {c : Code} {D : va_G} {cy : Nat → ClassId} {ad ad2 sk sv : Nat → Nat} {b L : Nat} {xs : Nat → Int32} (C0 : lw_At p s m meth c b L xs) (hj : jP ad) (hj2 : jR ad2) (hdj : ∀ i j : Nat, i < 44 → j < 19 → ad i ≠ ad2 j) (hup : ∀ i : Nat, i < 44 → s.heap.size ≤ ad i) (hup2 : ∀ i : Nat, i < 19 → s.heap.size ≤ ad2 i) (hK : va_K D vwCl (tyA cy) s) (hX0 : xP ad sk sv s) {I : mM → Int64 → mM → Int64 → Prop} {N : Nat} (hs : S_steps I N) {x3 : Int32} (hin1 : vp_in (x3 + 1) L) (hin2 : vp_in (x3 + 2) L) (kk : ∀ (f : mM) (t : Int64) (g : mM) (u : Int64), I f t g u → ∀ (H : Heap) (locs : List Loc) (ls : Array Slot), va_P D vwCl (wP ad cy f t) H → va_P D vwCl (wR ad2 cy g u) H → va_S (fun q : Nat => s.heap.size ≤ q) s.heap H locs → lv_has ls 4 [(0, .ref b), (1, .ref (ad 0)), (2, .ref (ad2 0)), (3, .int x3)] → W p l e room_1 s m #[Value.ref b] below meth c H locs 63 7246 (lw_Z below #[Value.ref b] s) (F0 m 888 ls [])) (f : mM) (t : Int64) (g : mM) (u : Int64) (hI : I f t g u) (H : Heap) (locs : List Loc) (ls : Array Slot) (hP : va_P D vwCl (wP ad cy f t) H) (hP2 : va_P D vwCl (wR ad2 cy g u) H) (hS : va_S (fun q : Nat => s.heap.size ≤ q) s.heap H locs) (hl : lv_has ls 4 [(0, .ref b), (1, .ref (ad 0)), (2, .ref (ad2 0)), (3, .int x3)]) : W p l e room_1 s m #[Value.ref b] below meth c H locs 63 7246 (lw_Z below #[Value.ref b] s) (F0 m 428 ls []) := by
  obtain ⟨hx, hb, hr, hml, hown, hts0, hX, hbl, hlocks, hgv⟩ := id C0
  have hts : ∀ w ∈ wsL_law, w.before #[Value.ref b] s = true := fun w h => hts0 w (wsL_law_in w h)
  have hown : s.vm.findClass RL = some m.cls := hown
  have hbA : ¬ (fun q : Nat => s.heap.size ≤ q) b := Nat.not_le.mpr hbl
  have hA1 : ∀ q, aP ad q → s.heap.size ≤ q := fun q ⟨k, h1, h2⟩ => by rw [h2]; exact hup k h1
  have hA2 : ∀ q, aR ad2 q → s.heap.size ≤ q := fun q ⟨k, h1, h2⟩ => by rw [h2]; exact hup2 k h1
  have hd1 : ∀ (g : mM) (u : Int64) (k : Nat) (x : Nat × va_E), (wR ad2 cy g u)[k]? = some x → ¬ aP ad x.1 := fun g u k x hx => by
    obtain ⟨k2, h1, h2⟩ := (dR hj2 g u).2 k x hx
    rintro ⟨k1, h3, h4⟩
    exact hdj k1 k2 h3 h1 (by rw [← h4, ← h2])
  have hd2 : ∀ (f : mM) (t : Int64) (k : Nat) (x : Nat × va_E), (wP ad cy f t)[k]? = some x → ¬ aR ad2 x.1 := fun f t k x hx => by
    obtain ⟨k1, h1, h2⟩ := (dP hj f t).2 k x hx
    rintro ⟨k2, h3, h4⟩
    exact hdj k1 k2 h1 h3 (by rw [← h2, ← h4])
  obtain ⟨r, f', g', hq1, hq2, hI⟩ := hs f t g u hI (xs (Int32.toNatClampNeg (x3 + 1))) (xs (Int32.toNatClampNeg (x3 + 2)))
  refine lv_aload_n hx hb dL_law_428 rfl (lv_at hl 1 rfl) ?_
  refine lv_aload_n hx hb dL_law_429 rfl (lv_at hl 0 rfl) ?_
  refine lv_iload_n hx hb dL_law_430 rfl (lv_at hl 3 rfl) ?_
  refine lv_iconst (v := 1) hx hb dL_law_431 (by decide) ?_
  refine lv_iadd hx hb dL_law_432 ?_
  refine va_sld hx hb hX hbl hbA hS hin1 dL_law_433 ?_
  refine lv_aload_n hx hb dL_law_434 rfl (lv_at hl 0 rfl) ?_
  refine lv_iload_n hx hb dL_law_435 rfl (lv_at hl 3 rfl) ?_
  refine lv_iconst (v := 2) hx hb dL_law_436 (by decide) ?_
  refine lv_iadd hx hb dL_law_437 ?_
  refine va_sld hx hb hX hbl hbA hS hin2 dL_law_438 ?_
  refine lc_vi (As := [.int (xs (Int32.toNatClampNeg (x3 + 1))), .int (xs (Int32.toNatClampNeg (x3 + 2)))]) (rest := []) xP_S hA1 (hd1 g u) ⟨hx, hb, hml, hown, hts⟩ hK hX0 hS hP hP2 (c_X9_steps hj l (xs (Int32.toNatClampNeg (x3 + 1))) (xs (Int32.toNatClampNeg (x3 + 2))) f t r f' hq1) (cwV 2 hts gL_law_X9_steps rfl rfl rfl (by decide +kernel) ⟨Nat.le_of_ble_eq_true rfl, Nat.le_of_ble_eq_true rfl⟩) (va_recv hK hP (ci := 9) (q0 := 0) rfl rfl) rfl hl.1 rfl (Nat.le_of_ble_eq_true rfl) ⟨Nat.le_of_ble_eq_true rfl, Nat.le_of_ble_eq_true rfl⟩ dL_law_439 (fun H locs hP hP2 hS => ?_)
  refine lv_aload_n hx hb dL_law_442 rfl (lv_at hl 2 rfl) ?_
  refine lv_aload_n hx hb dL_law_443 rfl (lv_at hl 0 rfl) ?_
  refine lv_iload_n hx hb dL_law_444 rfl (lv_at hl 3 rfl) ?_
  refine lv_iconst (v := 1) hx hb dL_law_445 (by decide) ?_
  refine lv_iadd hx hb dL_law_446 ?_
  refine va_sld hx hb hX hbl hbA hS hin1 dL_law_447 ?_
  refine lv_aload_n hx hb dL_law_448 rfl (lv_at hl 0 rfl) ?_
  refine lv_iload_n hx hb dL_law_449 rfl (lv_at hl 3 rfl) ?_
  refine lv_iconst (v := 2) hx hb dL_law_450 (by decide) ?_
  refine lv_iadd hx hb dL_law_451 ?_
  refine va_sld hx hb hX hbl hbA hS hin2 dL_law_452 ?_
  refine lc_vi (As := [.int (xs (Int32.toNatClampNeg (x3 + 1))), .int (xs (Int32.toNatClampNeg (x3 + 2)))]) (rest := [.int r]) xR_S hA2 (hd2 f' t) ⟨hx, hb, hml, hown, hts⟩ hK trivial hS hP2 hP (c_X10_steps hj2 l (xs (Int32.toNatClampNeg (x3 + 1))) (xs (Int32.toNatClampNeg (x3 + 2))) g u r g' hq2) (cwV 2 hts gL_law_X10_steps rfl rfl rfl (by decide +kernel) ⟨Nat.le_of_ble_eq_true rfl, Nat.le_of_ble_eq_true rfl⟩) (va_recv hK hP2 (ci := 10) (q0 := 0) rfl rfl) rfl hl.1 rfl (Nat.le_of_ble_eq_true rfl) ⟨Nat.le_of_ble_eq_true rfl, Nat.le_of_ble_eq_true rfl⟩ dL_law_453 (fun H locs hP2 hP hS => ?_)
  refine lv_icmp_eq (tgt := 888) hx hb dL_law_456 (by decide) (fun _ => ?_) (fun h => absurd rfl h)
  exact kk f' t g' u hI H locs ls hP hP2 hS hl
set_option maxHeartbeats 4000000 in
set_option maxRecDepth 100000 in
theorem law_days {p : Program} {l : Launch} {e : Env} {s : State} {m : MethodId} {below : List Frame} {meth : Method} {c : Code} {D : va_G} {cy : Nat → ClassId} {ad ad2 sk sv : Nat → Nat} {b L : Nat} {xs : Nat → Int32} (C0 : lw_At p s m meth c b L xs) (hj : jP ad) (hj2 : jR ad2) (hdj : ∀ i j : Nat, i < 44 → j < 19 → ad i ≠ ad2 j) (hup : ∀ i : Nat, i < 44 → s.heap.size ≤ ad i) (hup2 : ∀ i : Nat, i < 19 → s.heap.size ≤ ad2 i) (hK : va_K D vwCl (tyA cy) s) (hX0 : xP ad sk sv s) {I : mM → Int64 → mM → Int64 → Prop} {N : Nat} (hs : S_days I N) {x3 : Int32} (hin1 : vp_in (x3 + 1) L) (kk : ∀ (f : mM) (t : Int64) (g : mM) (u : Int64), I f t g u → ∀ (H : Heap) (locs : List Loc) (ls : Array Slot), va_P D vwCl (wP ad cy f t) H → va_P D vwCl (wR ad2 cy g u) H → va_S (fun q : Nat => s.heap.size ≤ q) s.heap H locs → lv_has ls 4 [(0, .ref b), (1, .ref (ad 0)), (2, .ref (ad2 0)), (3, .int x3)] → W p l e room_1 s m #[Value.ref b] below meth c H locs 63 7246 (lw_Z below #[Value.ref b] s) (F0 m 888 ls [])) (f : mM) (t : Int64) (g : mM) (u : Int64) (hI : I f t g u) (H : Heap) (locs : List Loc) (ls : Array Slot) (hP : va_P D vwCl (wP ad cy f t) H) (hP2 : va_P D vwCl (wR ad2 cy g u) H) (hS : va_S (fun q : Nat => s.heap.size ≤ q) s.heap H locs) (hl : lv_has ls 4 [(0, .ref b), (1, .ref (ad 0)), (2, .ref (ad2 0)), (3, .int x3)]) : W p l e room_1 s m #[Value.ref b] below meth c H locs 63 7246 (lw_Z below #[Value.ref b] s) (F0 m 461 ls []) := by
  obtain ⟨hx, hb, hr, hml, hown, hts0, hX, hbl, hlocks, hgv⟩ := id C0
  have hts : ∀ w ∈ wsL_law, w.before #[Value.ref b] s = true := fun w h => hts0 w (wsL_law_in w h)
  have hown : s.vm.findClass RL = some m.cls := hown
  have hbA : ¬ (fun q : Nat => s.heap.size ≤ q) b := Nat.not_le.mpr hbl
  have hA1 : ∀ q, aP ad q → s.heap.size ≤ q := fun q ⟨k, h1, h2⟩ => by rw [h2]; exact hup k h1
  have hA2 : ∀ q, aR ad2 q → s.heap.size ≤ q := fun q ⟨k, h1, h2⟩ => by rw [h2]; exact hup2 k h1
  have hd1 : ∀ (g : mM) (u : Int64) (k : Nat) (x : Nat × va_E), (wR ad2 cy g u)[k]? = some x → ¬ aP ad x.1 := fun g u k x hx => by
    obtain ⟨k2, h1, h2⟩ := (dR hj2 g u).2 k x hx
    rintro ⟨k1, h3, h4⟩
    exact hdj k1 k2 h3 h1 (by rw [← h4, ← h2])
  have hd2 : ∀ (f : mM) (t : Int64) (k : Nat) (x : Nat × va_E), (wP ad cy f t)[k]? = some x → ¬ aR ad2 x.1 := fun f t k x hx => by
    obtain ⟨k1, h1, h2⟩ := (dP hj f t).2 k x hx
    rintro ⟨k2, h3, h4⟩
    exact hdj k1 k2 h1 h3 (by rw [← h2, ← h4])
  obtain ⟨r, f', g', hq1, hq2, hI⟩ := hs f t g u hI (xs (Int32.toNatClampNeg (x3 + 1)))
  refine lv_aload_n hx hb dL_law_461 rfl (lv_at hl 1 rfl) ?_
  refine lv_aload_n hx hb dL_law_462 rfl (lv_at hl 0 rfl) ?_
  refine lv_iload_n hx hb dL_law_463 rfl (lv_at hl 3 rfl) ?_
  refine lv_iconst (v := 1) hx hb dL_law_464 (by decide) ?_
  refine lv_iadd hx hb dL_law_465 ?_
  refine va_sld hx hb hX hbl hbA hS hin1 dL_law_466 ?_
  refine lc_vi (As := [.int (xs (Int32.toNatClampNeg (x3 + 1)))]) (rest := []) xP_S hA1 (hd1 g u) ⟨hx, hb, hml, hown, hts⟩ hK hX0 hS hP hP2 (c_X9_days hj l N (xs (Int32.toNatClampNeg (x3 + 1))) f t r f' hq1) (cwV 1 hts gL_law_X9_days rfl rfl rfl (by decide +kernel) ⟨Nat.le_of_ble_eq_true rfl, Nat.le_of_ble_eq_true rfl⟩) (va_recv hK hP (ci := 9) (q0 := 0) rfl rfl) rfl hl.1 rfl (Nat.le_of_ble_eq_true rfl) ⟨Nat.le_of_ble_eq_true rfl, Nat.le_of_ble_eq_true rfl⟩ dL_law_467 (fun H locs hP hP2 hS => ?_)
  refine lv_aload_n hx hb dL_law_470 rfl (lv_at hl 2 rfl) ?_
  refine lv_aload_n hx hb dL_law_471 rfl (lv_at hl 0 rfl) ?_
  refine lv_iload_n hx hb dL_law_472 rfl (lv_at hl 3 rfl) ?_
  refine lv_iconst (v := 1) hx hb dL_law_473 (by decide) ?_
  refine lv_iadd hx hb dL_law_474 ?_
  refine va_sld hx hb hX hbl hbA hS hin1 dL_law_475 ?_
  refine lc_vi (As := [.int (xs (Int32.toNatClampNeg (x3 + 1)))]) (rest := [.int r]) xR_S hA2 (hd2 f' t) ⟨hx, hb, hml, hown, hts⟩ hK trivial hS hP2 hP (c_X10_days hj2 l N (xs (Int32.toNatClampNeg (x3 + 1))) g u r g' hq2) (cwV 1 hts gL_law_X10_days rfl rfl rfl (by decide +kernel) ⟨Nat.le_of_ble_eq_true rfl, Nat.le_of_ble_eq_true rfl⟩) (va_recv hK hP2 (ci := 10) (q0 := 0) rfl rfl) rfl hl.1 rfl (Nat.le_of_ble_eq_true rfl) ⟨Nat.le_of_ble_eq_true rfl, Nat.le_of_ble_eq_true rfl⟩ dL_law_476 (fun H locs hP2 hP hS => ?_)
  refine lv_icmp_eq (tgt := 888) hx hb dL_law_479 (by decide) (fun _ => ?_) (fun h => absurd rfl h)
  exact kk f' t g' u hI H locs ls hP hP2 hS hl
set_option maxHeartbeats 4000000 in
set_option maxRecDepth 100000 in
theorem law_went {p : Program} {l : Launch} {e : Env} {s : State} {m : MethodId} {below : List Frame} {meth : Method} {c : Code} {D : va_G} {cy : Nat → ClassId} {ad ad2 sk sv : Nat → Nat} {b L : Nat} {xs : Nat → Int32} (C0 : lw_At p s m meth c b L xs) (hj : jP ad) (hj2 : jR ad2) (hdj : ∀ i j : Nat, i < 44 → j < 19 → ad i ≠ ad2 j) (hup : ∀ i : Nat, i < 44 → s.heap.size ≤ ad i) (hup2 : ∀ i : Nat, i < 19 → s.heap.size ≤ ad2 i) (hK : va_K D vwCl (tyA cy) s) (hX0 : xP ad sk sv s) {I : mM → Int64 → mM → Int64 → Prop} {N : Nat} (hs : S_went I N) {x3 : Int32} (hin1 : vp_in (x3 + 1) L) (hin2 : vp_in (x3 + 2) L) (kk : ∀ (f : mM) (t : Int64) (g : mM) (u : Int64), I f t g u → ∀ (H : Heap) (locs : List Loc) (ls : Array Slot), va_P D vwCl (wP ad cy f t) H → va_P D vwCl (wR ad2 cy g u) H → va_S (fun q : Nat => s.heap.size ≤ q) s.heap H locs → lv_has ls 4 [(0, .ref b), (1, .ref (ad 0)), (2, .ref (ad2 0)), (3, .int x3)] → W p l e room_1 s m #[Value.ref b] below meth c H locs 63 7246 (lw_Z below #[Value.ref b] s) (F0 m 888 ls [])) (f : mM) (t : Int64) (g : mM) (u : Int64) (hI : I f t g u) (H : Heap) (locs : List Loc) (ls : Array Slot) (hP : va_P D vwCl (wP ad cy f t) H) (hP2 : va_P D vwCl (wR ad2 cy g u) H) (hS : va_S (fun q : Nat => s.heap.size ≤ q) s.heap H locs) (hl : lv_has ls 4 [(0, .ref b), (1, .ref (ad 0)), (2, .ref (ad2 0)), (3, .int x3)]) : W p l e room_1 s m #[Value.ref b] below meth c H locs 63 7246 (lw_Z below #[Value.ref b] s) (F0 m 484 ls []) := by
  obtain ⟨hx, hb, hr, hml, hown, hts0, hX, hbl, hlocks, hgv⟩ := id C0
  have hts : ∀ w ∈ wsL_law, w.before #[Value.ref b] s = true := fun w h => hts0 w (wsL_law_in w h)
  have hown : s.vm.findClass RL = some m.cls := hown
  have hbA : ¬ (fun q : Nat => s.heap.size ≤ q) b := Nat.not_le.mpr hbl
  have hA1 : ∀ q, aP ad q → s.heap.size ≤ q := fun q ⟨k, h1, h2⟩ => by rw [h2]; exact hup k h1
  have hA2 : ∀ q, aR ad2 q → s.heap.size ≤ q := fun q ⟨k, h1, h2⟩ => by rw [h2]; exact hup2 k h1
  have hd1 : ∀ (g : mM) (u : Int64) (k : Nat) (x : Nat × va_E), (wR ad2 cy g u)[k]? = some x → ¬ aP ad x.1 := fun g u k x hx => by
    obtain ⟨k2, h1, h2⟩ := (dR hj2 g u).2 k x hx
    rintro ⟨k1, h3, h4⟩
    exact hdj k1 k2 h3 h1 (by rw [← h4, ← h2])
  have hd2 : ∀ (f : mM) (t : Int64) (k : Nat) (x : Nat × va_E), (wP ad cy f t)[k]? = some x → ¬ aR ad2 x.1 := fun f t k x hx => by
    obtain ⟨k1, h1, h2⟩ := (dP hj f t).2 k x hx
    rintro ⟨k2, h3, h4⟩
    exact hdj k1 k2 h1 h3 (by rw [← h2, ← h4])
  obtain ⟨r, g', hq1, hq2, hI⟩ := hs f t g u hI (xs (Int32.toNatClampNeg (x3 + 1))) (xs (Int32.toNatClampNeg (x3 + 2)))
  refine lv_aload_n hx hb dL_law_484 rfl (lv_at hl 1 rfl) ?_
  refine lv_aload_n hx hb dL_law_485 rfl (lv_at hl 0 rfl) ?_
  refine lv_iload_n hx hb dL_law_486 rfl (lv_at hl 3 rfl) ?_
  refine lv_iconst (v := 1) hx hb dL_law_487 (by decide) ?_
  refine lv_iadd hx hb dL_law_488 ?_
  refine va_sld hx hb hX hbl hbA hS hin1 dL_law_489 ?_
  refine lv_aload_n hx hb dL_law_490 rfl (lv_at hl 0 rfl) ?_
  refine lv_iload_n hx hb dL_law_491 rfl (lv_at hl 3 rfl) ?_
  refine lv_iconst (v := 2) hx hb dL_law_492 (by decide) ?_
  refine lv_iadd hx hb dL_law_493 ?_
  refine va_sld hx hb hX hbl hbA hS hin2 dL_law_494 ?_
  refine lc_vi (As := [.int (xs (Int32.toNatClampNeg (x3 + 1))), .int (xs (Int32.toNatClampNeg (x3 + 2)))]) (rest := []) xP_S hA1 (hd1 g u) ⟨hx, hb, hml, hown, hts⟩ hK hX0 hS hP hP2 (c_X9_went hj l (xs (Int32.toNatClampNeg (x3 + 1))) (xs (Int32.toNatClampNeg (x3 + 2))) f t r hq1) (cwV 2 hts gL_law_X9_went rfl rfl rfl (by decide +kernel) ⟨Nat.le_of_ble_eq_true rfl, Nat.le_of_ble_eq_true rfl⟩) (va_recv hK hP (ci := 9) (q0 := 0) rfl rfl) rfl hl.1 rfl (Nat.le_of_ble_eq_true rfl) ⟨Nat.le_of_ble_eq_true rfl, Nat.le_of_ble_eq_true rfl⟩ dL_law_495 (fun H locs hP hP2 hS => ?_)
  refine lv_aload_n hx hb dL_law_498 rfl (lv_at hl 2 rfl) ?_
  refine lv_aload_n hx hb dL_law_499 rfl (lv_at hl 0 rfl) ?_
  refine lv_iload_n hx hb dL_law_500 rfl (lv_at hl 3 rfl) ?_
  refine lv_iconst (v := 1) hx hb dL_law_501 (by decide) ?_
  refine lv_iadd hx hb dL_law_502 ?_
  refine va_sld hx hb hX hbl hbA hS hin1 dL_law_503 ?_
  refine lv_aload_n hx hb dL_law_504 rfl (lv_at hl 0 rfl) ?_
  refine lv_iload_n hx hb dL_law_505 rfl (lv_at hl 3 rfl) ?_
  refine lv_iconst (v := 2) hx hb dL_law_506 (by decide) ?_
  refine lv_iadd hx hb dL_law_507 ?_
  refine va_sld hx hb hX hbl hbA hS hin2 dL_law_508 ?_
  refine lc_vi (As := [.int (xs (Int32.toNatClampNeg (x3 + 1))), .int (xs (Int32.toNatClampNeg (x3 + 2)))]) (rest := [.int r]) xR_S hA2 (hd2 f t) ⟨hx, hb, hml, hown, hts⟩ hK trivial hS hP2 hP (c_X10_went hj2 l (xs (Int32.toNatClampNeg (x3 + 1))) (xs (Int32.toNatClampNeg (x3 + 2))) g u r g' hq2) (cwV 2 hts gL_law_X10_went rfl rfl rfl (by decide +kernel) ⟨Nat.le_of_ble_eq_true rfl, Nat.le_of_ble_eq_true rfl⟩) (va_recv hK hP2 (ci := 10) (q0 := 0) rfl rfl) rfl hl.1 rfl (Nat.le_of_ble_eq_true rfl) ⟨Nat.le_of_ble_eq_true rfl, Nat.le_of_ble_eq_true rfl⟩ dL_law_509 (fun H locs hP2 hP hS => ?_)
  refine lv_icmp_eq (tgt := 888) hx hb dL_law_512 (by decide) (fun _ => ?_) (fun h => absurd rfl h)
  exact kk f t g' u hI H locs ls hP hP2 hS hl
set_option maxHeartbeats 4000000 in
set_option maxRecDepth 100000 in
theorem law_frost {p : Program} {l : Launch} {e : Env} {s : State} {m : MethodId} {below : List Frame} {meth : Method} {c : Code} {D : va_G} {cy : Nat → ClassId} {ad ad2 sk sv : Nat → Nat} {b L : Nat} {xs : Nat → Int32} (C0 : lw_At p s m meth c b L xs) (hj : jP ad) (hj2 : jR ad2) (hdj : ∀ i j : Nat, i < 44 → j < 19 → ad i ≠ ad2 j) (hup : ∀ i : Nat, i < 44 → s.heap.size ≤ ad i) (hup2 : ∀ i : Nat, i < 19 → s.heap.size ≤ ad2 i) (hK : va_K D vwCl (tyA cy) s) (hX0 : xP ad sk sv s) {I : mM → Int64 → mM → Int64 → Prop} {N : Nat} (hs : S_frost I N) {x3 : Int32}  (kk : ∀ (f : mM) (t : Int64) (g : mM) (u : Int64), I f t g u → ∀ (H : Heap) (locs : List Loc) (ls : Array Slot), va_P D vwCl (wP ad cy f t) H → va_P D vwCl (wR ad2 cy g u) H → va_S (fun q : Nat => s.heap.size ≤ q) s.heap H locs → lv_has ls 4 [(0, .ref b), (1, .ref (ad 0)), (2, .ref (ad2 0)), (3, .int x3)] → W p l e room_1 s m #[Value.ref b] below meth c H locs 63 7246 (lw_Z below #[Value.ref b] s) (F0 m 888 ls [])) (f : mM) (t : Int64) (g : mM) (u : Int64) (hI : I f t g u) (H : Heap) (locs : List Loc) (ls : Array Slot) (hP : va_P D vwCl (wP ad cy f t) H) (hP2 : va_P D vwCl (wR ad2 cy g u) H) (hS : va_S (fun q : Nat => s.heap.size ≤ q) s.heap H locs) (hl : lv_has ls 4 [(0, .ref b), (1, .ref (ad 0)), (2, .ref (ad2 0)), (3, .int x3)]) : W p l e room_1 s m #[Value.ref b] below meth c H locs 63 7246 (lw_Z below #[Value.ref b] s) (F0 m 517 ls []) := by
  obtain ⟨hx, hb, hr, hml, hown, hts0, hX, hbl, hlocks, hgv⟩ := id C0
  have hts : ∀ w ∈ wsL_law, w.before #[Value.ref b] s = true := fun w h => hts0 w (wsL_law_in w h)
  have hown : s.vm.findClass RL = some m.cls := hown
  have hbA : ¬ (fun q : Nat => s.heap.size ≤ q) b := Nat.not_le.mpr hbl
  have hA1 : ∀ q, aP ad q → s.heap.size ≤ q := fun q ⟨k, h1, h2⟩ => by rw [h2]; exact hup k h1
  have hA2 : ∀ q, aR ad2 q → s.heap.size ≤ q := fun q ⟨k, h1, h2⟩ => by rw [h2]; exact hup2 k h1
  have hd1 : ∀ (g : mM) (u : Int64) (k : Nat) (x : Nat × va_E), (wR ad2 cy g u)[k]? = some x → ¬ aP ad x.1 := fun g u k x hx => by
    obtain ⟨k2, h1, h2⟩ := (dR hj2 g u).2 k x hx
    rintro ⟨k1, h3, h4⟩
    exact hdj k1 k2 h3 h1 (by rw [← h4, ← h2])
  have hd2 : ∀ (f : mM) (t : Int64) (k : Nat) (x : Nat × va_E), (wP ad cy f t)[k]? = some x → ¬ aR ad2 x.1 := fun f t k x hx => by
    obtain ⟨k1, h1, h2⟩ := (dP hj f t).2 k x hx
    rintro ⟨k2, h3, h4⟩
    exact hdj k1 k2 h1 h3 (by rw [← h2, ← h4])
  obtain ⟨r, f', g', hq1, hq2, hI⟩ := hs f t g u hI
  refine lv_aload_n hx hb dL_law_517 rfl (lv_at hl 1 rfl) ?_
  refine lc_vi (As := []) (rest := []) xP_S hA1 (hd1 g u) ⟨hx, hb, hml, hown, hts⟩ hK hX0 hS hP hP2 (c_X9_frost hj l N f t r f' hq1) (cwV 0 hts gL_law_X9_frost rfl rfl rfl (by decide +kernel) ⟨Nat.le_of_ble_eq_true rfl, Nat.le_of_ble_eq_true rfl⟩) (va_recv hK hP (ci := 9) (q0 := 0) rfl rfl) rfl hl.1 rfl (Nat.le_of_ble_eq_true rfl) ⟨Nat.le_of_ble_eq_true rfl, Nat.le_of_ble_eq_true rfl⟩ dL_law_518 (fun H locs hP hP2 hS => ?_)
  refine lv_aload_n hx hb dL_law_521 rfl (lv_at hl 2 rfl) ?_
  refine lc_vi (As := []) (rest := [.int r]) xR_S hA2 (hd2 f' t) ⟨hx, hb, hml, hown, hts⟩ hK trivial hS hP2 hP (c_X10_frost hj2 l N g u r g' hq2) (cwV 0 hts gL_law_X10_frost rfl rfl rfl (by decide +kernel) ⟨Nat.le_of_ble_eq_true rfl, Nat.le_of_ble_eq_true rfl⟩) (va_recv hK hP2 (ci := 10) (q0 := 0) rfl rfl) rfl hl.1 rfl (Nat.le_of_ble_eq_true rfl) ⟨Nat.le_of_ble_eq_true rfl, Nat.le_of_ble_eq_true rfl⟩ dL_law_522 (fun H locs hP2 hP hS => ?_)
  refine lv_icmp_eq (tgt := 888) hx hb dL_law_525 (by decide) (fun _ => ?_) (fun h => absurd rfl h)
  exact kk f' t g' u hI H locs ls hP hP2 hS hl
set_option maxHeartbeats 4000000 in
set_option maxRecDepth 100000 in
theorem law_cart {p : Program} {l : Launch} {e : Env} {s : State} {m : MethodId} {below : List Frame} {meth : Method} {c : Code} {D : va_G} {cy : Nat → ClassId} {ad ad2 sk sv : Nat → Nat} {b L : Nat} {xs : Nat → Int32} (C0 : lw_At p s m meth c b L xs) (hj : jP ad) (hj2 : jR ad2) (hdj : ∀ i j : Nat, i < 44 → j < 19 → ad i ≠ ad2 j) (hup : ∀ i : Nat, i < 44 → s.heap.size ≤ ad i) (hup2 : ∀ i : Nat, i < 19 → s.heap.size ≤ ad2 i) (hK : va_K D vwCl (tyA cy) s) (hX0 : xP ad sk sv s) {I : mM → Int64 → mM → Int64 → Prop} {N : Nat} (hs : S_cart I N) {x3 : Int32} (hin1 : vp_in (x3 + 1) L) (kk : ∀ (f : mM) (t : Int64) (g : mM) (u : Int64), I f t g u → ∀ (H : Heap) (locs : List Loc) (ls : Array Slot), va_P D vwCl (wP ad cy f t) H → va_P D vwCl (wR ad2 cy g u) H → va_S (fun q : Nat => s.heap.size ≤ q) s.heap H locs → lv_has ls 4 [(0, .ref b), (1, .ref (ad 0)), (2, .ref (ad2 0)), (3, .int x3)] → W p l e room_1 s m #[Value.ref b] below meth c H locs 63 7246 (lw_Z below #[Value.ref b] s) (F0 m 888 ls [])) (f : mM) (t : Int64) (g : mM) (u : Int64) (hI : I f t g u) (H : Heap) (locs : List Loc) (ls : Array Slot) (hP : va_P D vwCl (wP ad cy f t) H) (hP2 : va_P D vwCl (wR ad2 cy g u) H) (hS : va_S (fun q : Nat => s.heap.size ≤ q) s.heap H locs) (hl : lv_has ls 4 [(0, .ref b), (1, .ref (ad 0)), (2, .ref (ad2 0)), (3, .int x3)]) : W p l e room_1 s m #[Value.ref b] below meth c H locs 63 7246 (lw_Z below #[Value.ref b] s) (F0 m 530 ls []) := by
  obtain ⟨hx, hb, hr, hml, hown, hts0, hX, hbl, hlocks, hgv⟩ := id C0
  have hts : ∀ w ∈ wsL_law, w.before #[Value.ref b] s = true := fun w h => hts0 w (wsL_law_in w h)
  have hown : s.vm.findClass RL = some m.cls := hown
  have hbA : ¬ (fun q : Nat => s.heap.size ≤ q) b := Nat.not_le.mpr hbl
  have hA1 : ∀ q, aP ad q → s.heap.size ≤ q := fun q ⟨k, h1, h2⟩ => by rw [h2]; exact hup k h1
  have hA2 : ∀ q, aR ad2 q → s.heap.size ≤ q := fun q ⟨k, h1, h2⟩ => by rw [h2]; exact hup2 k h1
  have hd1 : ∀ (g : mM) (u : Int64) (k : Nat) (x : Nat × va_E), (wR ad2 cy g u)[k]? = some x → ¬ aP ad x.1 := fun g u k x hx => by
    obtain ⟨k2, h1, h2⟩ := (dR hj2 g u).2 k x hx
    rintro ⟨k1, h3, h4⟩
    exact hdj k1 k2 h3 h1 (by rw [← h4, ← h2])
  have hd2 : ∀ (f : mM) (t : Int64) (k : Nat) (x : Nat × va_E), (wP ad cy f t)[k]? = some x → ¬ aR ad2 x.1 := fun f t k x hx => by
    obtain ⟨k1, h1, h2⟩ := (dP hj f t).2 k x hx
    rintro ⟨k2, h3, h4⟩
    exact hdj k1 k2 h1 h3 (by rw [← h2, ← h4])
  obtain ⟨r, f', g', hq1, hq2, hI⟩ := hs f t g u hI (xs (Int32.toNatClampNeg (x3 + 1)))
  refine lv_aload_n hx hb dL_law_530 rfl (lv_at hl 1 rfl) ?_
  refine lv_aload_n hx hb dL_law_531 rfl (lv_at hl 0 rfl) ?_
  refine lv_iload_n hx hb dL_law_532 rfl (lv_at hl 3 rfl) ?_
  refine lv_iconst (v := 1) hx hb dL_law_533 (by decide) ?_
  refine lv_iadd hx hb dL_law_534 ?_
  refine va_sld hx hb hX hbl hbA hS hin1 dL_law_535 ?_
  refine lc_vi (As := [.int (xs (Int32.toNatClampNeg (x3 + 1)))]) (rest := []) xP_S hA1 (hd1 g u) ⟨hx, hb, hml, hown, hts⟩ hK hX0 hS hP hP2 (c_X9_cart hj l (xs (Int32.toNatClampNeg (x3 + 1))) f t r f' hq1) (cwV 1 hts gL_law_X9_cart rfl rfl rfl (by decide +kernel) ⟨Nat.le_of_ble_eq_true rfl, Nat.le_of_ble_eq_true rfl⟩) (va_recv hK hP (ci := 9) (q0 := 0) rfl rfl) rfl hl.1 rfl (Nat.le_of_ble_eq_true rfl) ⟨Nat.le_of_ble_eq_true rfl, Nat.le_of_ble_eq_true rfl⟩ dL_law_536 (fun H locs hP hP2 hS => ?_)
  refine lv_aload_n hx hb dL_law_539 rfl (lv_at hl 2 rfl) ?_
  refine lv_aload_n hx hb dL_law_540 rfl (lv_at hl 0 rfl) ?_
  refine lv_iload_n hx hb dL_law_541 rfl (lv_at hl 3 rfl) ?_
  refine lv_iconst (v := 1) hx hb dL_law_542 (by decide) ?_
  refine lv_iadd hx hb dL_law_543 ?_
  refine va_sld hx hb hX hbl hbA hS hin1 dL_law_544 ?_
  refine lc_vi (As := [.int (xs (Int32.toNatClampNeg (x3 + 1)))]) (rest := [.int r]) xR_S hA2 (hd2 f' t) ⟨hx, hb, hml, hown, hts⟩ hK trivial hS hP2 hP (c_X10_cart hj2 l (xs (Int32.toNatClampNeg (x3 + 1))) g u r g' hq2) (cwV 1 hts gL_law_X10_cart rfl rfl rfl (by decide +kernel) ⟨Nat.le_of_ble_eq_true rfl, Nat.le_of_ble_eq_true rfl⟩) (va_recv hK hP2 (ci := 10) (q0 := 0) rfl rfl) rfl hl.1 rfl (Nat.le_of_ble_eq_true rfl) ⟨Nat.le_of_ble_eq_true rfl, Nat.le_of_ble_eq_true rfl⟩ dL_law_545 (fun H locs hP2 hP hS => ?_)
  refine lv_icmp_eq (tgt := 888) hx hb dL_law_548 (by decide) (fun _ => ?_) (fun h => absurd rfl h)
  exact kk f' t g' u hI H locs ls hP hP2 hS hl
set_option maxHeartbeats 4000000 in
set_option maxRecDepth 100000 in
theorem law_exchange {p : Program} {l : Launch} {e : Env} {s : State} {m : MethodId} {below : List Frame} {meth : Method} {c : Code} {D : va_G} {cy : Nat → ClassId} {ad ad2 sk sv : Nat → Nat} {b L : Nat} {xs : Nat → Int32} (C0 : lw_At p s m meth c b L xs) (hj : jP ad) (hj2 : jR ad2) (hdj : ∀ i j : Nat, i < 44 → j < 19 → ad i ≠ ad2 j) (hup : ∀ i : Nat, i < 44 → s.heap.size ≤ ad i) (hup2 : ∀ i : Nat, i < 19 → s.heap.size ≤ ad2 i) (hK : va_K D vwCl (tyA cy) s) (hX0 : xP ad sk sv s) {I : mM → Int64 → mM → Int64 → Prop} {N : Nat} (hs : S_exchange I N) {x3 : Int32} (hin1 : vp_in (x3 + 1) L) (hin2 : vp_in (x3 + 2) L) (kk : ∀ (f : mM) (t : Int64) (g : mM) (u : Int64), I f t g u → ∀ (H : Heap) (locs : List Loc) (ls : Array Slot), va_P D vwCl (wP ad cy f t) H → va_P D vwCl (wR ad2 cy g u) H → va_S (fun q : Nat => s.heap.size ≤ q) s.heap H locs → lv_has ls 4 [(0, .ref b), (1, .ref (ad 0)), (2, .ref (ad2 0)), (3, .int x3)] → W p l e room_1 s m #[Value.ref b] below meth c H locs 63 7246 (lw_Z below #[Value.ref b] s) (F0 m 888 ls [])) (f : mM) (t : Int64) (g : mM) (u : Int64) (hI : I f t g u) (H : Heap) (locs : List Loc) (ls : Array Slot) (hP : va_P D vwCl (wP ad cy f t) H) (hP2 : va_P D vwCl (wR ad2 cy g u) H) (hS : va_S (fun q : Nat => s.heap.size ≤ q) s.heap H locs) (hl : lv_has ls 4 [(0, .ref b), (1, .ref (ad 0)), (2, .ref (ad2 0)), (3, .int x3)]) : W p l e room_1 s m #[Value.ref b] below meth c H locs 63 7246 (lw_Z below #[Value.ref b] s) (F0 m 553 ls []) := by
  obtain ⟨hx, hb, hr, hml, hown, hts0, hX, hbl, hlocks, hgv⟩ := id C0
  have hts : ∀ w ∈ wsL_law, w.before #[Value.ref b] s = true := fun w h => hts0 w (wsL_law_in w h)
  have hown : s.vm.findClass RL = some m.cls := hown
  have hbA : ¬ (fun q : Nat => s.heap.size ≤ q) b := Nat.not_le.mpr hbl
  have hA1 : ∀ q, aP ad q → s.heap.size ≤ q := fun q ⟨k, h1, h2⟩ => by rw [h2]; exact hup k h1
  have hA2 : ∀ q, aR ad2 q → s.heap.size ≤ q := fun q ⟨k, h1, h2⟩ => by rw [h2]; exact hup2 k h1
  have hd1 : ∀ (g : mM) (u : Int64) (k : Nat) (x : Nat × va_E), (wR ad2 cy g u)[k]? = some x → ¬ aP ad x.1 := fun g u k x hx => by
    obtain ⟨k2, h1, h2⟩ := (dR hj2 g u).2 k x hx
    rintro ⟨k1, h3, h4⟩
    exact hdj k1 k2 h3 h1 (by rw [← h4, ← h2])
  have hd2 : ∀ (f : mM) (t : Int64) (k : Nat) (x : Nat × va_E), (wP ad cy f t)[k]? = some x → ¬ aR ad2 x.1 := fun f t k x hx => by
    obtain ⟨k1, h1, h2⟩ := (dP hj f t).2 k x hx
    rintro ⟨k2, h3, h4⟩
    exact hdj k1 k2 h1 h3 (by rw [← h2, ← h4])
  obtain ⟨r, f', g', hq1, hq2, hI⟩ := hs f t g u hI (xs (Int32.toNatClampNeg (x3 + 1))) (xs (Int32.toNatClampNeg (x3 + 2)))
  refine lv_aload_n hx hb dL_law_553 rfl (lv_at hl 1 rfl) ?_
  refine lv_aload_n hx hb dL_law_554 rfl (lv_at hl 0 rfl) ?_
  refine lv_iload_n hx hb dL_law_555 rfl (lv_at hl 3 rfl) ?_
  refine lv_iconst (v := 1) hx hb dL_law_556 (by decide) ?_
  refine lv_iadd hx hb dL_law_557 ?_
  refine va_sld hx hb hX hbl hbA hS hin1 dL_law_558 ?_
  refine lv_aload_n hx hb dL_law_559 rfl (lv_at hl 0 rfl) ?_
  refine lv_iload_n hx hb dL_law_560 rfl (lv_at hl 3 rfl) ?_
  refine lv_iconst (v := 2) hx hb dL_law_561 (by decide) ?_
  refine lv_iadd hx hb dL_law_562 ?_
  refine va_sld hx hb hX hbl hbA hS hin2 dL_law_563 ?_
  refine lc_vi (As := [.int (xs (Int32.toNatClampNeg (x3 + 1))), .int (xs (Int32.toNatClampNeg (x3 + 2)))]) (rest := []) xP_S hA1 (hd1 g u) ⟨hx, hb, hml, hown, hts⟩ hK hX0 hS hP hP2 (c_X9_exchange hj l (xs (Int32.toNatClampNeg (x3 + 1))) (xs (Int32.toNatClampNeg (x3 + 2))) f t r f' hq1) (cwV 2 hts gL_law_X9_exchange rfl rfl rfl (by decide +kernel) ⟨Nat.le_of_ble_eq_true rfl, Nat.le_of_ble_eq_true rfl⟩) (va_recv hK hP (ci := 9) (q0 := 0) rfl rfl) rfl hl.1 rfl (Nat.le_of_ble_eq_true rfl) ⟨Nat.le_of_ble_eq_true rfl, Nat.le_of_ble_eq_true rfl⟩ dL_law_564 (fun H locs hP hP2 hS => ?_)
  refine lv_aload_n hx hb dL_law_567 rfl (lv_at hl 2 rfl) ?_
  refine lv_aload_n hx hb dL_law_568 rfl (lv_at hl 0 rfl) ?_
  refine lv_iload_n hx hb dL_law_569 rfl (lv_at hl 3 rfl) ?_
  refine lv_iconst (v := 1) hx hb dL_law_570 (by decide) ?_
  refine lv_iadd hx hb dL_law_571 ?_
  refine va_sld hx hb hX hbl hbA hS hin1 dL_law_572 ?_
  refine lv_aload_n hx hb dL_law_573 rfl (lv_at hl 0 rfl) ?_
  refine lv_iload_n hx hb dL_law_574 rfl (lv_at hl 3 rfl) ?_
  refine lv_iconst (v := 2) hx hb dL_law_575 (by decide) ?_
  refine lv_iadd hx hb dL_law_576 ?_
  refine va_sld hx hb hX hbl hbA hS hin2 dL_law_577 ?_
  refine lc_vi (As := [.int (xs (Int32.toNatClampNeg (x3 + 1))), .int (xs (Int32.toNatClampNeg (x3 + 2)))]) (rest := [.int r]) xR_S hA2 (hd2 f' t) ⟨hx, hb, hml, hown, hts⟩ hK trivial hS hP2 hP (c_X10_exchange hj2 l (xs (Int32.toNatClampNeg (x3 + 1))) (xs (Int32.toNatClampNeg (x3 + 2))) g u r g' hq2) (cwV 2 hts gL_law_X10_exchange rfl rfl rfl (by decide +kernel) ⟨Nat.le_of_ble_eq_true rfl, Nat.le_of_ble_eq_true rfl⟩) (va_recv hK hP2 (ci := 10) (q0 := 0) rfl rfl) rfl hl.1 rfl (Nat.le_of_ble_eq_true rfl) ⟨Nat.le_of_ble_eq_true rfl, Nat.le_of_ble_eq_true rfl⟩ dL_law_578 (fun H locs hP2 hP hS => ?_)
  refine lv_icmp_eq (tgt := 888) hx hb dL_law_581 (by decide) (fun _ => ?_) (fun h => absurd rfl h)
  exact kk f' t g' u hI H locs ls hP hP2 hS hl
set_option maxHeartbeats 4000000 in
set_option maxRecDepth 100000 in
theorem law_all {p : Program} {l : Launch} {e : Env} {s : State} {m : MethodId} {below : List Frame} {meth : Method} {c : Code} {D : va_G} {cy : Nat → ClassId} {ad ad2 sk sv : Nat → Nat} {b L : Nat} {xs : Nat → Int32} (C0 : lw_At p s m meth c b L xs) (hj : jP ad) (hj2 : jR ad2) (hdj : ∀ i j : Nat, i < 44 → j < 19 → ad i ≠ ad2 j) (hup : ∀ i : Nat, i < 44 → s.heap.size ≤ ad i) (hup2 : ∀ i : Nat, i < 19 → s.heap.size ≤ ad2 i) (hK : va_K D vwCl (tyA cy) s) (hX0 : xP ad sk sv s) {I : mM → Int64 → mM → Int64 → Prop} {N : Nat} (hs : S_all I N) {x3 : Int32} (hin1 : vp_in (x3 + 1) L) (kk : ∀ (f : mM) (t : Int64) (g : mM) (u : Int64), I f t g u → ∀ (H : Heap) (locs : List Loc) (ls : Array Slot), va_P D vwCl (wP ad cy f t) H → va_P D vwCl (wR ad2 cy g u) H → va_S (fun q : Nat => s.heap.size ≤ q) s.heap H locs → lv_has ls 4 [(0, .ref b), (1, .ref (ad 0)), (2, .ref (ad2 0)), (3, .int x3)] → W p l e room_1 s m #[Value.ref b] below meth c H locs 63 7246 (lw_Z below #[Value.ref b] s) (F0 m 888 ls [])) (f : mM) (t : Int64) (g : mM) (u : Int64) (hI : I f t g u) (H : Heap) (locs : List Loc) (ls : Array Slot) (hP : va_P D vwCl (wP ad cy f t) H) (hP2 : va_P D vwCl (wR ad2 cy g u) H) (hS : va_S (fun q : Nat => s.heap.size ≤ q) s.heap H locs) (hl : lv_has ls 4 [(0, .ref b), (1, .ref (ad 0)), (2, .ref (ad2 0)), (3, .int x3)]) : W p l e room_1 s m #[Value.ref b] below meth c H locs 63 7246 (lw_Z below #[Value.ref b] s) (F0 m 586 ls []) := by
  obtain ⟨hx, hb, hr, hml, hown, hts0, hX, hbl, hlocks, hgv⟩ := id C0
  have hts : ∀ w ∈ wsL_law, w.before #[Value.ref b] s = true := fun w h => hts0 w (wsL_law_in w h)
  have hown : s.vm.findClass RL = some m.cls := hown
  have hbA : ¬ (fun q : Nat => s.heap.size ≤ q) b := Nat.not_le.mpr hbl
  have hA1 : ∀ q, aP ad q → s.heap.size ≤ q := fun q ⟨k, h1, h2⟩ => by rw [h2]; exact hup k h1
  have hA2 : ∀ q, aR ad2 q → s.heap.size ≤ q := fun q ⟨k, h1, h2⟩ => by rw [h2]; exact hup2 k h1
  have hd1 : ∀ (g : mM) (u : Int64) (k : Nat) (x : Nat × va_E), (wR ad2 cy g u)[k]? = some x → ¬ aP ad x.1 := fun g u k x hx => by
    obtain ⟨k2, h1, h2⟩ := (dR hj2 g u).2 k x hx
    rintro ⟨k1, h3, h4⟩
    exact hdj k1 k2 h3 h1 (by rw [← h4, ← h2])
  have hd2 : ∀ (f : mM) (t : Int64) (k : Nat) (x : Nat × va_E), (wP ad cy f t)[k]? = some x → ¬ aR ad2 x.1 := fun f t k x hx => by
    obtain ⟨k1, h1, h2⟩ := (dP hj f t).2 k x hx
    rintro ⟨k2, h3, h4⟩
    exact hdj k1 k2 h1 h3 (by rw [← h2, ← h4])
  obtain ⟨r, f', g', hq1, hq2, hI⟩ := hs f t g u hI (xs (Int32.toNatClampNeg (x3 + 1)))
  refine lv_aload_n hx hb dL_law_586 rfl (lv_at hl 1 rfl) ?_
  refine lv_aload_n hx hb dL_law_587 rfl (lv_at hl 0 rfl) ?_
  refine lv_iload_n hx hb dL_law_588 rfl (lv_at hl 3 rfl) ?_
  refine lv_iconst (v := 1) hx hb dL_law_589 (by decide) ?_
  refine lv_iadd hx hb dL_law_590 ?_
  refine va_sld hx hb hX hbl hbA hS hin1 dL_law_591 ?_
  refine lc_vi (As := [.int (xs (Int32.toNatClampNeg (x3 + 1)))]) (rest := []) xP_S hA1 (hd1 g u) ⟨hx, hb, hml, hown, hts⟩ hK hX0 hS hP hP2 (c_X9_all hj l N (xs (Int32.toNatClampNeg (x3 + 1))) f t r f' hq1) (cwV 1 hts gL_law_X9_all rfl rfl rfl (by decide +kernel) ⟨Nat.le_of_ble_eq_true rfl, Nat.le_of_ble_eq_true rfl⟩) (va_recv hK hP (ci := 9) (q0 := 0) rfl rfl) rfl hl.1 rfl (Nat.le_of_ble_eq_true rfl) ⟨Nat.le_of_ble_eq_true rfl, Nat.le_of_ble_eq_true rfl⟩ dL_law_592 (fun H locs hP hP2 hS => ?_)
  refine lv_aload_n hx hb dL_law_595 rfl (lv_at hl 2 rfl) ?_
  refine lv_aload_n hx hb dL_law_596 rfl (lv_at hl 0 rfl) ?_
  refine lv_iload_n hx hb dL_law_597 rfl (lv_at hl 3 rfl) ?_
  refine lv_iconst (v := 1) hx hb dL_law_598 (by decide) ?_
  refine lv_iadd hx hb dL_law_599 ?_
  refine va_sld hx hb hX hbl hbA hS hin1 dL_law_600 ?_
  refine lc_vi (As := [.int (xs (Int32.toNatClampNeg (x3 + 1)))]) (rest := [.int r]) xR_S hA2 (hd2 f' t) ⟨hx, hb, hml, hown, hts⟩ hK trivial hS hP2 hP (c_X10_all hj2 l N (xs (Int32.toNatClampNeg (x3 + 1))) g u r g' hq2) (cwV 1 hts gL_law_X10_all rfl rfl rfl (by decide +kernel) ⟨Nat.le_of_ble_eq_true rfl, Nat.le_of_ble_eq_true rfl⟩) (va_recv hK hP2 (ci := 10) (q0 := 0) rfl rfl) rfl hl.1 rfl (Nat.le_of_ble_eq_true rfl) ⟨Nat.le_of_ble_eq_true rfl, Nat.le_of_ble_eq_true rfl⟩ dL_law_601 (fun H locs hP2 hP hS => ?_)
  refine lv_icmp_eq (tgt := 888) hx hb dL_law_604 (by decide) (fun _ => ?_) (fun h => absurd rfl h)
  exact kk f' t g' u hI H locs ls hP hP2 hS hl
set_option maxHeartbeats 4000000 in
set_option maxRecDepth 100000 in
theorem law_often {p : Program} {l : Launch} {e : Env} {s : State} {m : MethodId} {below : List Frame} {meth : Method} {c : Code} {D : va_G} {cy : Nat → ClassId} {ad ad2 sk sv : Nat → Nat} {b L : Nat} {xs : Nat → Int32} (C0 : lw_At p s m meth c b L xs) (hj : jP ad) (hj2 : jR ad2) (hdj : ∀ i j : Nat, i < 44 → j < 19 → ad i ≠ ad2 j) (hup : ∀ i : Nat, i < 44 → s.heap.size ≤ ad i) (hup2 : ∀ i : Nat, i < 19 → s.heap.size ≤ ad2 i) (hK : va_K D vwCl (tyA cy) s) (hX0 : xP ad sk sv s) {I : mM → Int64 → mM → Int64 → Prop} {N : Nat} (hs : S_often I N) {x3 : Int32} (hin1 : vp_in (x3 + 1) L) (hin2 : vp_in (x3 + 2) L) (hin3 : vp_in (x3 + 3) L) (hin4 : vp_in (x3 + 4) L) (kk : ∀ (f : mM) (t : Int64) (g : mM) (u : Int64), I f t g u → ∀ (H : Heap) (locs : List Loc) (ls : Array Slot), va_P D vwCl (wP ad cy f t) H → va_P D vwCl (wR ad2 cy g u) H → va_S (fun q : Nat => s.heap.size ≤ q) s.heap H locs → lv_has ls 4 [(0, .ref b), (1, .ref (ad 0)), (2, .ref (ad2 0)), (3, .int x3)] → W p l e room_1 s m #[Value.ref b] below meth c H locs 63 7246 (lw_Z below #[Value.ref b] s) (F0 m 888 ls [])) (f : mM) (t : Int64) (g : mM) (u : Int64) (hI : I f t g u) (H : Heap) (locs : List Loc) (ls : Array Slot) (hP : va_P D vwCl (wP ad cy f t) H) (hP2 : va_P D vwCl (wR ad2 cy g u) H) (hS : va_S (fun q : Nat => s.heap.size ≤ q) s.heap H locs) (hl : lv_has ls 4 [(0, .ref b), (1, .ref (ad 0)), (2, .ref (ad2 0)), (3, .int x3)]) : W p l e room_1 s m #[Value.ref b] below meth c H locs 63 7246 (lw_Z below #[Value.ref b] s) (F0 m 609 ls []) := by
  obtain ⟨hx, hb, hr, hml, hown, hts0, hX, hbl, hlocks, hgv⟩ := id C0
  have hts : ∀ w ∈ wsL_law, w.before #[Value.ref b] s = true := fun w h => hts0 w (wsL_law_in w h)
  have hown : s.vm.findClass RL = some m.cls := hown
  have hbA : ¬ (fun q : Nat => s.heap.size ≤ q) b := Nat.not_le.mpr hbl
  have hA1 : ∀ q, aP ad q → s.heap.size ≤ q := fun q ⟨k, h1, h2⟩ => by rw [h2]; exact hup k h1
  have hA2 : ∀ q, aR ad2 q → s.heap.size ≤ q := fun q ⟨k, h1, h2⟩ => by rw [h2]; exact hup2 k h1
  have hd1 : ∀ (g : mM) (u : Int64) (k : Nat) (x : Nat × va_E), (wR ad2 cy g u)[k]? = some x → ¬ aP ad x.1 := fun g u k x hx => by
    obtain ⟨k2, h1, h2⟩ := (dR hj2 g u).2 k x hx
    rintro ⟨k1, h3, h4⟩
    exact hdj k1 k2 h3 h1 (by rw [← h4, ← h2])
  have hd2 : ∀ (f : mM) (t : Int64) (k : Nat) (x : Nat × va_E), (wP ad cy f t)[k]? = some x → ¬ aR ad2 x.1 := fun f t k x hx => by
    obtain ⟨k1, h1, h2⟩ := (dP hj f t).2 k x hx
    rintro ⟨k2, h3, h4⟩
    exact hdj k1 k2 h1 h3 (by rw [← h2, ← h4])
  obtain ⟨r, f', g', hq1, hq2, hI⟩ := hs f t g u hI (xs (Int32.toNatClampNeg (x3 + 1))) (xs (Int32.toNatClampNeg (x3 + 2))) (xs (Int32.toNatClampNeg (x3 + 3))) (xs (Int32.toNatClampNeg (x3 + 4)))
  refine lv_aload_n hx hb dL_law_609 rfl (lv_at hl 1 rfl) ?_
  refine lv_aload_n hx hb dL_law_610 rfl (lv_at hl 0 rfl) ?_
  refine lv_iload_n hx hb dL_law_611 rfl (lv_at hl 3 rfl) ?_
  refine lv_iconst (v := 1) hx hb dL_law_612 (by decide) ?_
  refine lv_iadd hx hb dL_law_613 ?_
  refine va_sld hx hb hX hbl hbA hS hin1 dL_law_614 ?_
  refine lv_aload_n hx hb dL_law_615 rfl (lv_at hl 0 rfl) ?_
  refine lv_iload_n hx hb dL_law_616 rfl (lv_at hl 3 rfl) ?_
  refine lv_iconst (v := 2) hx hb dL_law_617 (by decide) ?_
  refine lv_iadd hx hb dL_law_618 ?_
  refine va_sld hx hb hX hbl hbA hS hin2 dL_law_619 ?_
  refine lv_aload_n hx hb dL_law_620 rfl (lv_at hl 0 rfl) ?_
  refine lv_iload_n hx hb dL_law_621 rfl (lv_at hl 3 rfl) ?_
  refine lv_iconst (v := 3) hx hb dL_law_622 (by decide) ?_
  refine lv_iadd hx hb dL_law_623 ?_
  refine va_sld hx hb hX hbl hbA hS hin3 dL_law_624 ?_
  refine lv_aload_n hx hb dL_law_625 rfl (lv_at hl 0 rfl) ?_
  refine lv_iload_n hx hb dL_law_626 rfl (lv_at hl 3 rfl) ?_
  refine lv_iconst (v := 4) hx hb dL_law_627 (by decide) ?_
  refine lv_iadd hx hb dL_law_628 ?_
  refine va_sld hx hb hX hbl hbA hS hin4 dL_law_629 ?_
  refine lc_vi (As := [.int (xs (Int32.toNatClampNeg (x3 + 1))), .int (xs (Int32.toNatClampNeg (x3 + 2))), .int (xs (Int32.toNatClampNeg (x3 + 3))), .int (xs (Int32.toNatClampNeg (x3 + 4)))]) (rest := []) xP_S hA1 (hd1 g u) ⟨hx, hb, hml, hown, hts⟩ hK hX0 hS hP hP2 (c_X9_often hj l N (xs (Int32.toNatClampNeg (x3 + 1))) (xs (Int32.toNatClampNeg (x3 + 2))) (xs (Int32.toNatClampNeg (x3 + 3))) (xs (Int32.toNatClampNeg (x3 + 4))) f t r f' hq1) (cwV 4 hts gL_law_X9_often rfl rfl rfl (by decide +kernel) ⟨Nat.le_of_ble_eq_true rfl, Nat.le_of_ble_eq_true rfl⟩) (va_recv hK hP (ci := 9) (q0 := 0) rfl rfl) rfl hl.1 rfl (Nat.le_of_ble_eq_true rfl) ⟨Nat.le_of_ble_eq_true rfl, Nat.le_of_ble_eq_true rfl⟩ dL_law_630 (fun H locs hP hP2 hS => ?_)
  refine lv_aload_n hx hb dL_law_633 rfl (lv_at hl 2 rfl) ?_
  refine lv_aload_n hx hb dL_law_634 rfl (lv_at hl 0 rfl) ?_
  refine lv_iload_n hx hb dL_law_635 rfl (lv_at hl 3 rfl) ?_
  refine lv_iconst (v := 1) hx hb dL_law_636 (by decide) ?_
  refine lv_iadd hx hb dL_law_637 ?_
  refine va_sld hx hb hX hbl hbA hS hin1 dL_law_638 ?_
  refine lv_aload_n hx hb dL_law_639 rfl (lv_at hl 0 rfl) ?_
  refine lv_iload_n hx hb dL_law_640 rfl (lv_at hl 3 rfl) ?_
  refine lv_iconst (v := 2) hx hb dL_law_641 (by decide) ?_
  refine lv_iadd hx hb dL_law_642 ?_
  refine va_sld hx hb hX hbl hbA hS hin2 dL_law_643 ?_
  refine lv_aload_n hx hb dL_law_644 rfl (lv_at hl 0 rfl) ?_
  refine lv_iload_n hx hb dL_law_645 rfl (lv_at hl 3 rfl) ?_
  refine lv_iconst (v := 3) hx hb dL_law_646 (by decide) ?_
  refine lv_iadd hx hb dL_law_647 ?_
  refine va_sld hx hb hX hbl hbA hS hin3 dL_law_648 ?_
  refine lv_aload_n hx hb dL_law_649 rfl (lv_at hl 0 rfl) ?_
  refine lv_iload_n hx hb dL_law_650 rfl (lv_at hl 3 rfl) ?_
  refine lv_iconst (v := 4) hx hb dL_law_651 (by decide) ?_
  refine lv_iadd hx hb dL_law_652 ?_
  refine va_sld hx hb hX hbl hbA hS hin4 dL_law_653 ?_
  refine lc_vi (As := [.int (xs (Int32.toNatClampNeg (x3 + 1))), .int (xs (Int32.toNatClampNeg (x3 + 2))), .int (xs (Int32.toNatClampNeg (x3 + 3))), .int (xs (Int32.toNatClampNeg (x3 + 4)))]) (rest := [.int r]) xR_S hA2 (hd2 f' t) ⟨hx, hb, hml, hown, hts⟩ hK trivial hS hP2 hP (c_X10_often hj2 l N (xs (Int32.toNatClampNeg (x3 + 1))) (xs (Int32.toNatClampNeg (x3 + 2))) (xs (Int32.toNatClampNeg (x3 + 3))) (xs (Int32.toNatClampNeg (x3 + 4))) g u r g' hq2) (cwV 4 hts gL_law_X10_often rfl rfl rfl (by decide +kernel) ⟨Nat.le_of_ble_eq_true rfl, Nat.le_of_ble_eq_true rfl⟩) (va_recv hK hP2 (ci := 10) (q0 := 0) rfl rfl) rfl hl.1 rfl (Nat.le_of_ble_eq_true rfl) ⟨Nat.le_of_ble_eq_true rfl, Nat.le_of_ble_eq_true rfl⟩ dL_law_654 (fun H locs hP2 hP hS => ?_)
  refine lv_icmp_eq (tgt := 888) hx hb dL_law_657 (by decide) (fun _ => ?_) (fun h => absurd rfl h)
  exact kk f' t g' u hI H locs ls hP hP2 hS hl
set_option maxHeartbeats 4000000 in
set_option maxRecDepth 100000 in
theorem law_better {p : Program} {l : Launch} {e : Env} {s : State} {m : MethodId} {below : List Frame} {meth : Method} {c : Code} {D : va_G} {cy : Nat → ClassId} {ad ad2 sk sv : Nat → Nat} {b L : Nat} {xs : Nat → Int32} (C0 : lw_At p s m meth c b L xs) (hj : jP ad) (hj2 : jR ad2) (hdj : ∀ i j : Nat, i < 44 → j < 19 → ad i ≠ ad2 j) (hup : ∀ i : Nat, i < 44 → s.heap.size ≤ ad i) (hup2 : ∀ i : Nat, i < 19 → s.heap.size ≤ ad2 i) (hK : va_K D vwCl (tyA cy) s) (hX0 : xP ad sk sv s) {I : mM → Int64 → mM → Int64 → Prop} {N : Nat} (hs : S_better I N) {x3 : Int32} (hin1 : vp_in (x3 + 1) L) (hin2 : vp_in (x3 + 2) L) (hin3 : vp_in (x3 + 3) L) (hin4 : vp_in (x3 + 4) L) (kk : ∀ (f : mM) (t : Int64) (g : mM) (u : Int64), I f t g u → ∀ (H : Heap) (locs : List Loc) (ls : Array Slot), va_P D vwCl (wP ad cy f t) H → va_P D vwCl (wR ad2 cy g u) H → va_S (fun q : Nat => s.heap.size ≤ q) s.heap H locs → lv_has ls 4 [(0, .ref b), (1, .ref (ad 0)), (2, .ref (ad2 0)), (3, .int x3)] → W p l e room_1 s m #[Value.ref b] below meth c H locs 63 7246 (lw_Z below #[Value.ref b] s) (F0 m 888 ls [])) (f : mM) (t : Int64) (g : mM) (u : Int64) (hI : I f t g u) (H : Heap) (locs : List Loc) (ls : Array Slot) (hP : va_P D vwCl (wP ad cy f t) H) (hP2 : va_P D vwCl (wR ad2 cy g u) H) (hS : va_S (fun q : Nat => s.heap.size ≤ q) s.heap H locs) (hl : lv_has ls 4 [(0, .ref b), (1, .ref (ad 0)), (2, .ref (ad2 0)), (3, .int x3)]) : W p l e room_1 s m #[Value.ref b] below meth c H locs 63 7246 (lw_Z below #[Value.ref b] s) (F0 m 662 ls []) := by
  obtain ⟨hx, hb, hr, hml, hown, hts0, hX, hbl, hlocks, hgv⟩ := id C0
  have hts : ∀ w ∈ wsL_law, w.before #[Value.ref b] s = true := fun w h => hts0 w (wsL_law_in w h)
  have hown : s.vm.findClass RL = some m.cls := hown
  have hbA : ¬ (fun q : Nat => s.heap.size ≤ q) b := Nat.not_le.mpr hbl
  have hA1 : ∀ q, aP ad q → s.heap.size ≤ q := fun q ⟨k, h1, h2⟩ => by rw [h2]; exact hup k h1
  have hA2 : ∀ q, aR ad2 q → s.heap.size ≤ q := fun q ⟨k, h1, h2⟩ => by rw [h2]; exact hup2 k h1
  have hd1 : ∀ (g : mM) (u : Int64) (k : Nat) (x : Nat × va_E), (wR ad2 cy g u)[k]? = some x → ¬ aP ad x.1 := fun g u k x hx => by
    obtain ⟨k2, h1, h2⟩ := (dR hj2 g u).2 k x hx
    rintro ⟨k1, h3, h4⟩
    exact hdj k1 k2 h3 h1 (by rw [← h4, ← h2])
  have hd2 : ∀ (f : mM) (t : Int64) (k : Nat) (x : Nat × va_E), (wP ad cy f t)[k]? = some x → ¬ aR ad2 x.1 := fun f t k x hx => by
    obtain ⟨k1, h1, h2⟩ := (dP hj f t).2 k x hx
    rintro ⟨k2, h3, h4⟩
    exact hdj k1 k2 h1 h3 (by rw [← h2, ← h4])
  obtain ⟨r, f', g', hq1, hq2, hI⟩ := hs f t g u hI (xs (Int32.toNatClampNeg (x3 + 1))) (xs (Int32.toNatClampNeg (x3 + 2))) (xs (Int32.toNatClampNeg (x3 + 3))) (xs (Int32.toNatClampNeg (x3 + 4)))
  refine lv_aload_n hx hb dL_law_662 rfl (lv_at hl 1 rfl) ?_
  refine lv_aload_n hx hb dL_law_663 rfl (lv_at hl 0 rfl) ?_
  refine lv_iload_n hx hb dL_law_664 rfl (lv_at hl 3 rfl) ?_
  refine lv_iconst (v := 1) hx hb dL_law_665 (by decide) ?_
  refine lv_iadd hx hb dL_law_666 ?_
  refine va_sld hx hb hX hbl hbA hS hin1 dL_law_667 ?_
  refine lv_aload_n hx hb dL_law_668 rfl (lv_at hl 0 rfl) ?_
  refine lv_iload_n hx hb dL_law_669 rfl (lv_at hl 3 rfl) ?_
  refine lv_iconst (v := 2) hx hb dL_law_670 (by decide) ?_
  refine lv_iadd hx hb dL_law_671 ?_
  refine va_sld hx hb hX hbl hbA hS hin2 dL_law_672 ?_
  refine lv_aload_n hx hb dL_law_673 rfl (lv_at hl 0 rfl) ?_
  refine lv_iload_n hx hb dL_law_674 rfl (lv_at hl 3 rfl) ?_
  refine lv_iconst (v := 3) hx hb dL_law_675 (by decide) ?_
  refine lv_iadd hx hb dL_law_676 ?_
  refine va_sld hx hb hX hbl hbA hS hin3 dL_law_677 ?_
  refine lv_aload_n hx hb dL_law_678 rfl (lv_at hl 0 rfl) ?_
  refine lv_iload_n hx hb dL_law_679 rfl (lv_at hl 3 rfl) ?_
  refine lv_iconst (v := 4) hx hb dL_law_680 (by decide) ?_
  refine lv_iadd hx hb dL_law_681 ?_
  refine va_sld hx hb hX hbl hbA hS hin4 dL_law_682 ?_
  refine lc_vi (As := [.int (xs (Int32.toNatClampNeg (x3 + 1))), .int (xs (Int32.toNatClampNeg (x3 + 2))), .int (xs (Int32.toNatClampNeg (x3 + 3))), .int (xs (Int32.toNatClampNeg (x3 + 4)))]) (rest := []) xP_S hA1 (hd1 g u) ⟨hx, hb, hml, hown, hts⟩ hK hX0 hS hP hP2 (c_X9_better hj l N (xs (Int32.toNatClampNeg (x3 + 1))) (xs (Int32.toNatClampNeg (x3 + 2))) (xs (Int32.toNatClampNeg (x3 + 3))) (xs (Int32.toNatClampNeg (x3 + 4))) f t r f' hq1) (cwV 4 hts gL_law_X9_better rfl rfl rfl (by decide +kernel) ⟨Nat.le_of_ble_eq_true rfl, Nat.le_of_ble_eq_true rfl⟩) (va_recv hK hP (ci := 9) (q0 := 0) rfl rfl) rfl hl.1 rfl (Nat.le_of_ble_eq_true rfl) ⟨Nat.le_of_ble_eq_true rfl, Nat.le_of_ble_eq_true rfl⟩ dL_law_683 (fun H locs hP hP2 hS => ?_)
  refine lv_aload_n hx hb dL_law_686 rfl (lv_at hl 2 rfl) ?_
  refine lv_aload_n hx hb dL_law_687 rfl (lv_at hl 0 rfl) ?_
  refine lv_iload_n hx hb dL_law_688 rfl (lv_at hl 3 rfl) ?_
  refine lv_iconst (v := 1) hx hb dL_law_689 (by decide) ?_
  refine lv_iadd hx hb dL_law_690 ?_
  refine va_sld hx hb hX hbl hbA hS hin1 dL_law_691 ?_
  refine lv_aload_n hx hb dL_law_692 rfl (lv_at hl 0 rfl) ?_
  refine lv_iload_n hx hb dL_law_693 rfl (lv_at hl 3 rfl) ?_
  refine lv_iconst (v := 2) hx hb dL_law_694 (by decide) ?_
  refine lv_iadd hx hb dL_law_695 ?_
  refine va_sld hx hb hX hbl hbA hS hin2 dL_law_696 ?_
  refine lv_aload_n hx hb dL_law_697 rfl (lv_at hl 0 rfl) ?_
  refine lv_iload_n hx hb dL_law_698 rfl (lv_at hl 3 rfl) ?_
  refine lv_iconst (v := 3) hx hb dL_law_699 (by decide) ?_
  refine lv_iadd hx hb dL_law_700 ?_
  refine va_sld hx hb hX hbl hbA hS hin3 dL_law_701 ?_
  refine lv_aload_n hx hb dL_law_702 rfl (lv_at hl 0 rfl) ?_
  refine lv_iload_n hx hb dL_law_703 rfl (lv_at hl 3 rfl) ?_
  refine lv_iconst (v := 4) hx hb dL_law_704 (by decide) ?_
  refine lv_iadd hx hb dL_law_705 ?_
  refine va_sld hx hb hX hbl hbA hS hin4 dL_law_706 ?_
  refine lc_vi (As := [.int (xs (Int32.toNatClampNeg (x3 + 1))), .int (xs (Int32.toNatClampNeg (x3 + 2))), .int (xs (Int32.toNatClampNeg (x3 + 3))), .int (xs (Int32.toNatClampNeg (x3 + 4)))]) (rest := [.int r]) xR_S hA2 (hd2 f' t) ⟨hx, hb, hml, hown, hts⟩ hK trivial hS hP2 hP (c_X10_better hj2 l N (xs (Int32.toNatClampNeg (x3 + 1))) (xs (Int32.toNatClampNeg (x3 + 2))) (xs (Int32.toNatClampNeg (x3 + 3))) (xs (Int32.toNatClampNeg (x3 + 4))) g u r g' hq2) (cwV 4 hts gL_law_X10_better rfl rfl rfl (by decide +kernel) ⟨Nat.le_of_ble_eq_true rfl, Nat.le_of_ble_eq_true rfl⟩) (va_recv hK hP2 (ci := 10) (q0 := 0) rfl rfl) rfl hl.1 rfl (Nat.le_of_ble_eq_true rfl) ⟨Nat.le_of_ble_eq_true rfl, Nat.le_of_ble_eq_true rfl⟩ dL_law_707 (fun H locs hP2 hP hS => ?_)
  refine lv_icmp_eq (tgt := 888) hx hb dL_law_710 (by decide) (fun _ => ?_) (fun h => absurd rfl h)
  exact kk f' t g' u hI H locs ls hP hP2 hS hl
set_option maxHeartbeats 4000000 in
set_option maxRecDepth 100000 in
theorem law_spent {p : Program} {l : Launch} {e : Env} {s : State} {m : MethodId} {below : List Frame} {meth : Method} {c : Code} {D : va_G} {cy : Nat → ClassId} {ad ad2 sk sv : Nat → Nat} {b L : Nat} {xs : Nat → Int32} (C0 : lw_At p s m meth c b L xs) (hj : jP ad) (hj2 : jR ad2) (hdj : ∀ i j : Nat, i < 44 → j < 19 → ad i ≠ ad2 j) (hup : ∀ i : Nat, i < 44 → s.heap.size ≤ ad i) (hup2 : ∀ i : Nat, i < 19 → s.heap.size ≤ ad2 i) (hK : va_K D vwCl (tyA cy) s) (hX0 : xP ad sk sv s) {I : mM → Int64 → mM → Int64 → Prop} {N : Nat} (hs : S_spent I N) {x3 : Int32} (hin1 : vp_in (x3 + 1) L) (hin2 : vp_in (x3 + 2) L) (kk : ∀ (f : mM) (t : Int64) (g : mM) (u : Int64), I f t g u → ∀ (H : Heap) (locs : List Loc) (ls : Array Slot), va_P D vwCl (wP ad cy f t) H → va_P D vwCl (wR ad2 cy g u) H → va_S (fun q : Nat => s.heap.size ≤ q) s.heap H locs → lv_has ls 4 [(0, .ref b), (1, .ref (ad 0)), (2, .ref (ad2 0)), (3, .int x3)] → W p l e room_1 s m #[Value.ref b] below meth c H locs 63 7246 (lw_Z below #[Value.ref b] s) (F0 m 888 ls [])) (f : mM) (t : Int64) (g : mM) (u : Int64) (hI : I f t g u) (H : Heap) (locs : List Loc) (ls : Array Slot) (hP : va_P D vwCl (wP ad cy f t) H) (hP2 : va_P D vwCl (wR ad2 cy g u) H) (hS : va_S (fun q : Nat => s.heap.size ≤ q) s.heap H locs) (hl : lv_has ls 4 [(0, .ref b), (1, .ref (ad 0)), (2, .ref (ad2 0)), (3, .int x3)]) : W p l e room_1 s m #[Value.ref b] below meth c H locs 63 7246 (lw_Z below #[Value.ref b] s) (F0 m 715 ls []) := by
  obtain ⟨hx, hb, hr, hml, hown, hts0, hX, hbl, hlocks, hgv⟩ := id C0
  have hts : ∀ w ∈ wsL_law, w.before #[Value.ref b] s = true := fun w h => hts0 w (wsL_law_in w h)
  have hown : s.vm.findClass RL = some m.cls := hown
  have hbA : ¬ (fun q : Nat => s.heap.size ≤ q) b := Nat.not_le.mpr hbl
  have hA1 : ∀ q, aP ad q → s.heap.size ≤ q := fun q ⟨k, h1, h2⟩ => by rw [h2]; exact hup k h1
  have hA2 : ∀ q, aR ad2 q → s.heap.size ≤ q := fun q ⟨k, h1, h2⟩ => by rw [h2]; exact hup2 k h1
  have hd1 : ∀ (g : mM) (u : Int64) (k : Nat) (x : Nat × va_E), (wR ad2 cy g u)[k]? = some x → ¬ aP ad x.1 := fun g u k x hx => by
    obtain ⟨k2, h1, h2⟩ := (dR hj2 g u).2 k x hx
    rintro ⟨k1, h3, h4⟩
    exact hdj k1 k2 h3 h1 (by rw [← h4, ← h2])
  have hd2 : ∀ (f : mM) (t : Int64) (k : Nat) (x : Nat × va_E), (wP ad cy f t)[k]? = some x → ¬ aR ad2 x.1 := fun f t k x hx => by
    obtain ⟨k1, h1, h2⟩ := (dP hj f t).2 k x hx
    rintro ⟨k2, h3, h4⟩
    exact hdj k1 k2 h1 h3 (by rw [← h2, ← h4])
  obtain ⟨r, g', hq1, hq2, hI⟩ := hs f t g u hI (xs (Int32.toNatClampNeg (x3 + 1))) (xs (Int32.toNatClampNeg (x3 + 2)))
  refine lv_aload_n hx hb dL_law_715 rfl (lv_at hl 1 rfl) ?_
  refine lv_aload_n hx hb dL_law_716 rfl (lv_at hl 0 rfl) ?_
  refine lv_iload_n hx hb dL_law_717 rfl (lv_at hl 3 rfl) ?_
  refine lv_iconst (v := 1) hx hb dL_law_718 (by decide) ?_
  refine lv_iadd hx hb dL_law_719 ?_
  refine va_sld hx hb hX hbl hbA hS hin1 dL_law_720 ?_
  refine lv_aload_n hx hb dL_law_721 rfl (lv_at hl 0 rfl) ?_
  refine lv_iload_n hx hb dL_law_722 rfl (lv_at hl 3 rfl) ?_
  refine lv_iconst (v := 2) hx hb dL_law_723 (by decide) ?_
  refine lv_iadd hx hb dL_law_724 ?_
  refine va_sld hx hb hX hbl hbA hS hin2 dL_law_725 ?_
  refine lc_vi (As := [.int (xs (Int32.toNatClampNeg (x3 + 1))), .int (xs (Int32.toNatClampNeg (x3 + 2)))]) (rest := []) xP_S hA1 (hd1 g u) ⟨hx, hb, hml, hown, hts⟩ hK hX0 hS hP hP2 (c_X9_spent hj l N (xs (Int32.toNatClampNeg (x3 + 1))) (xs (Int32.toNatClampNeg (x3 + 2))) f t r hq1) (cwV 2 hts gL_law_X9_spent rfl rfl rfl (by decide +kernel) ⟨Nat.le_of_ble_eq_true rfl, Nat.le_of_ble_eq_true rfl⟩) (va_recv hK hP (ci := 9) (q0 := 0) rfl rfl) rfl hl.1 rfl (Nat.le_of_ble_eq_true rfl) ⟨Nat.le_of_ble_eq_true rfl, Nat.le_of_ble_eq_true rfl⟩ dL_law_726 (fun H locs hP hP2 hS => ?_)
  refine lv_aload_n hx hb dL_law_729 rfl (lv_at hl 2 rfl) ?_
  refine lv_aload_n hx hb dL_law_730 rfl (lv_at hl 0 rfl) ?_
  refine lv_iload_n hx hb dL_law_731 rfl (lv_at hl 3 rfl) ?_
  refine lv_iconst (v := 1) hx hb dL_law_732 (by decide) ?_
  refine lv_iadd hx hb dL_law_733 ?_
  refine va_sld hx hb hX hbl hbA hS hin1 dL_law_734 ?_
  refine lv_aload_n hx hb dL_law_735 rfl (lv_at hl 0 rfl) ?_
  refine lv_iload_n hx hb dL_law_736 rfl (lv_at hl 3 rfl) ?_
  refine lv_iconst (v := 2) hx hb dL_law_737 (by decide) ?_
  refine lv_iadd hx hb dL_law_738 ?_
  refine va_sld hx hb hX hbl hbA hS hin2 dL_law_739 ?_
  refine lc_vi (As := [.int (xs (Int32.toNatClampNeg (x3 + 1))), .int (xs (Int32.toNatClampNeg (x3 + 2)))]) (rest := [.int r]) xR_S hA2 (hd2 f t) ⟨hx, hb, hml, hown, hts⟩ hK trivial hS hP2 hP (c_X10_spent hj2 l N (xs (Int32.toNatClampNeg (x3 + 1))) (xs (Int32.toNatClampNeg (x3 + 2))) g u r g' hq2) (cwV 2 hts gL_law_X10_spent rfl rfl rfl (by decide +kernel) ⟨Nat.le_of_ble_eq_true rfl, Nat.le_of_ble_eq_true rfl⟩) (va_recv hK hP2 (ci := 10) (q0 := 0) rfl rfl) rfl hl.1 rfl (Nat.le_of_ble_eq_true rfl) ⟨Nat.le_of_ble_eq_true rfl, Nat.le_of_ble_eq_true rfl⟩ dL_law_740 (fun H locs hP2 hP hS => ?_)
  refine lv_icmp_eq (tgt := 888) hx hb dL_law_743 (by decide) (fun _ => ?_) (fun h => absurd rfl h)
  exact kk f t g' u hI H locs ls hP hP2 hS hl
set_option maxHeartbeats 4000000 in
set_option maxRecDepth 100000 in
theorem law_tell {p : Program} {l : Launch} {e : Env} {s : State} {m : MethodId} {below : List Frame} {meth : Method} {c : Code} {D : va_G} {cy : Nat → ClassId} {ad ad2 sk sv : Nat → Nat} {b L : Nat} {xs : Nat → Int32} (C0 : lw_At p s m meth c b L xs) (hj : jP ad) (hj2 : jR ad2) (hdj : ∀ i j : Nat, i < 44 → j < 19 → ad i ≠ ad2 j) (hup : ∀ i : Nat, i < 44 → s.heap.size ≤ ad i) (hup2 : ∀ i : Nat, i < 19 → s.heap.size ≤ ad2 i) (hK : va_K D vwCl (tyA cy) s) (hX0 : xP ad sk sv s) {I : mM → Int64 → mM → Int64 → Prop} {N : Nat} (hs : S_tell I N) {x3 : Int32} (hin1 : vp_in (x3 + 1) L) (kk : ∀ (f : mM) (t : Int64) (g : mM) (u : Int64), I f t g u → ∀ (H : Heap) (locs : List Loc) (ls : Array Slot), va_P D vwCl (wP ad cy f t) H → va_P D vwCl (wR ad2 cy g u) H → va_S (fun q : Nat => s.heap.size ≤ q) s.heap H locs → lv_has ls 4 [(0, .ref b), (1, .ref (ad 0)), (2, .ref (ad2 0)), (3, .int x3)] → W p l e room_1 s m #[Value.ref b] below meth c H locs 63 7246 (lw_Z below #[Value.ref b] s) (F0 m 888 ls [])) (f : mM) (t : Int64) (g : mM) (u : Int64) (hI : I f t g u) (H : Heap) (locs : List Loc) (ls : Array Slot) (hP : va_P D vwCl (wP ad cy f t) H) (hP2 : va_P D vwCl (wR ad2 cy g u) H) (hS : va_S (fun q : Nat => s.heap.size ≤ q) s.heap H locs) (hl : lv_has ls 4 [(0, .ref b), (1, .ref (ad 0)), (2, .ref (ad2 0)), (3, .int x3)]) : W p l e room_1 s m #[Value.ref b] below meth c H locs 63 7246 (lw_Z below #[Value.ref b] s) (F0 m 748 ls []) := by
  obtain ⟨hx, hb, hr, hml, hown, hts0, hX, hbl, hlocks, hgv⟩ := id C0
  have hts : ∀ w ∈ wsL_law, w.before #[Value.ref b] s = true := fun w h => hts0 w (wsL_law_in w h)
  have hown : s.vm.findClass RL = some m.cls := hown
  have hbA : ¬ (fun q : Nat => s.heap.size ≤ q) b := Nat.not_le.mpr hbl
  have hA1 : ∀ q, aP ad q → s.heap.size ≤ q := fun q ⟨k, h1, h2⟩ => by rw [h2]; exact hup k h1
  have hA2 : ∀ q, aR ad2 q → s.heap.size ≤ q := fun q ⟨k, h1, h2⟩ => by rw [h2]; exact hup2 k h1
  have hd1 : ∀ (g : mM) (u : Int64) (k : Nat) (x : Nat × va_E), (wR ad2 cy g u)[k]? = some x → ¬ aP ad x.1 := fun g u k x hx => by
    obtain ⟨k2, h1, h2⟩ := (dR hj2 g u).2 k x hx
    rintro ⟨k1, h3, h4⟩
    exact hdj k1 k2 h3 h1 (by rw [← h4, ← h2])
  have hd2 : ∀ (f : mM) (t : Int64) (k : Nat) (x : Nat × va_E), (wP ad cy f t)[k]? = some x → ¬ aR ad2 x.1 := fun f t k x hx => by
    obtain ⟨k1, h1, h2⟩ := (dP hj f t).2 k x hx
    rintro ⟨k2, h3, h4⟩
    exact hdj k1 k2 h1 h3 (by rw [← h2, ← h4])
  obtain ⟨r, f', g', hq1, hq2, hI⟩ := hs f t g u hI (xs (Int32.toNatClampNeg (x3 + 1)))
  refine lv_aload_n hx hb dL_law_748 rfl (lv_at hl 1 rfl) ?_
  refine lv_aload_n hx hb dL_law_749 rfl (lv_at hl 0 rfl) ?_
  refine lv_iload_n hx hb dL_law_750 rfl (lv_at hl 3 rfl) ?_
  refine lv_iconst (v := 1) hx hb dL_law_751 (by decide) ?_
  refine lv_iadd hx hb dL_law_752 ?_
  refine va_sld hx hb hX hbl hbA hS hin1 dL_law_753 ?_
  refine lc_vl (As := [.int (xs (Int32.toNatClampNeg (x3 + 1)))]) (rest := []) xP_S hA1 (hd1 g u) ⟨hx, hb, hml, hown, hts⟩ hK hX0 hS hP hP2 (c_X9_tell hj l N (xs (Int32.toNatClampNeg (x3 + 1))) f t r f' hq1) (cwV 1 hts gL_law_X9_tell rfl rfl rfl (by decide +kernel) ⟨Nat.le_of_ble_eq_true rfl, Nat.le_of_ble_eq_true rfl⟩) (va_recv hK hP (ci := 9) (q0 := 0) rfl rfl) rfl hl.1 rfl (Nat.le_of_ble_eq_true rfl) ⟨Nat.le_of_ble_eq_true rfl, Nat.le_of_ble_eq_true rfl⟩ dL_law_754 (fun H locs hP hP2 hS => ?_)
  refine lv_aload_n hx hb dL_law_757 rfl (lv_at hl 2 rfl) ?_
  refine lv_aload_n hx hb dL_law_758 rfl (lv_at hl 0 rfl) ?_
  refine lv_iload_n hx hb dL_law_759 rfl (lv_at hl 3 rfl) ?_
  refine lv_iconst (v := 1) hx hb dL_law_760 (by decide) ?_
  refine lv_iadd hx hb dL_law_761 ?_
  refine va_sld hx hb hX hbl hbA hS hin1 dL_law_762 ?_
  refine lc_vl (As := [.int (xs (Int32.toNatClampNeg (x3 + 1)))]) (rest := [.long r]) xR_S hA2 (hd2 f' t) ⟨hx, hb, hml, hown, hts⟩ hK trivial hS hP2 hP (c_X10_tell hj2 l N (xs (Int32.toNatClampNeg (x3 + 1))) g u r g' hq2) (cwV 1 hts gL_law_X10_tell rfl rfl rfl (by decide +kernel) ⟨Nat.le_of_ble_eq_true rfl, Nat.le_of_ble_eq_true rfl⟩) (va_recv hK hP2 (ci := 10) (q0 := 0) rfl rfl) rfl hl.1 rfl (Nat.le_of_ble_eq_true rfl) ⟨Nat.le_of_ble_eq_true rfl, Nat.le_of_ble_eq_true rfl⟩ dL_law_763 (fun H locs hP2 hP hS => ?_)
  refine W.lcmp hx hb dL_law_766 ?_
  refine lv_if_eq (tgt := 888) hx hb dL_law_767 (by decide) (fun _ => ?_) (fun h => absurd (lg_self r) h)
  exact kk f' t g' u hI H locs ls hP hP2 hS hl
set_option maxHeartbeats 4000000 in
set_option maxRecDepth 100000 in
theorem law_rate {p : Program} {l : Launch} {e : Env} {s : State} {m : MethodId} {below : List Frame} {meth : Method} {c : Code} {D : va_G} {cy : Nat → ClassId} {ad ad2 sk sv : Nat → Nat} {b L : Nat} {xs : Nat → Int32} (C0 : lw_At p s m meth c b L xs) (hj : jP ad) (hj2 : jR ad2) (hdj : ∀ i j : Nat, i < 44 → j < 19 → ad i ≠ ad2 j) (hup : ∀ i : Nat, i < 44 → s.heap.size ≤ ad i) (hup2 : ∀ i : Nat, i < 19 → s.heap.size ≤ ad2 i) (hK : va_K D vwCl (tyA cy) s) (hX0 : xP ad sk sv s) {I : mM → Int64 → mM → Int64 → Prop} {N : Nat} (hs : S_rate I N) {x3 : Int32} (hin1 : vp_in (x3 + 1) L) (hin2 : vp_in (x3 + 2) L) (kk : ∀ (f : mM) (t : Int64) (g : mM) (u : Int64), I f t g u → ∀ (H : Heap) (locs : List Loc) (ls : Array Slot), va_P D vwCl (wP ad cy f t) H → va_P D vwCl (wR ad2 cy g u) H → va_S (fun q : Nat => s.heap.size ≤ q) s.heap H locs → lv_has ls 4 [(0, .ref b), (1, .ref (ad 0)), (2, .ref (ad2 0)), (3, .int x3)] → W p l e room_1 s m #[Value.ref b] below meth c H locs 63 7246 (lw_Z below #[Value.ref b] s) (F0 m 888 ls [])) (f : mM) (t : Int64) (g : mM) (u : Int64) (hI : I f t g u) (H : Heap) (locs : List Loc) (ls : Array Slot) (hP : va_P D vwCl (wP ad cy f t) H) (hP2 : va_P D vwCl (wR ad2 cy g u) H) (hS : va_S (fun q : Nat => s.heap.size ≤ q) s.heap H locs) (hl : lv_has ls 4 [(0, .ref b), (1, .ref (ad 0)), (2, .ref (ad2 0)), (3, .int x3)]) : W p l e room_1 s m #[Value.ref b] below meth c H locs 63 7246 (lw_Z below #[Value.ref b] s) (F0 m 772 ls []) := by
  obtain ⟨hx, hb, hr, hml, hown, hts0, hX, hbl, hlocks, hgv⟩ := id C0
  have hts : ∀ w ∈ wsL_law, w.before #[Value.ref b] s = true := fun w h => hts0 w (wsL_law_in w h)
  have hown : s.vm.findClass RL = some m.cls := hown
  have hbA : ¬ (fun q : Nat => s.heap.size ≤ q) b := Nat.not_le.mpr hbl
  have hA1 : ∀ q, aP ad q → s.heap.size ≤ q := fun q ⟨k, h1, h2⟩ => by rw [h2]; exact hup k h1
  have hA2 : ∀ q, aR ad2 q → s.heap.size ≤ q := fun q ⟨k, h1, h2⟩ => by rw [h2]; exact hup2 k h1
  have hd1 : ∀ (g : mM) (u : Int64) (k : Nat) (x : Nat × va_E), (wR ad2 cy g u)[k]? = some x → ¬ aP ad x.1 := fun g u k x hx => by
    obtain ⟨k2, h1, h2⟩ := (dR hj2 g u).2 k x hx
    rintro ⟨k1, h3, h4⟩
    exact hdj k1 k2 h3 h1 (by rw [← h4, ← h2])
  have hd2 : ∀ (f : mM) (t : Int64) (k : Nat) (x : Nat × va_E), (wP ad cy f t)[k]? = some x → ¬ aR ad2 x.1 := fun f t k x hx => by
    obtain ⟨k1, h1, h2⟩ := (dP hj f t).2 k x hx
    rintro ⟨k2, h3, h4⟩
    exact hdj k1 k2 h1 h3 (by rw [← h2, ← h4])
  obtain ⟨r, t', g', u', hq1, hq2, hI⟩ := hs f t g u hI (xs (Int32.toNatClampNeg (x3 + 1))) (xs (Int32.toNatClampNeg (x3 + 2)))
  refine lv_aload_n hx hb dL_law_772 rfl (lv_at hl 1 rfl) ?_
  refine lv_aload_n hx hb dL_law_773 rfl (lv_at hl 0 rfl) ?_
  refine lv_iload_n hx hb dL_law_774 rfl (lv_at hl 3 rfl) ?_
  refine lv_iconst (v := 1) hx hb dL_law_775 (by decide) ?_
  refine lv_iadd hx hb dL_law_776 ?_
  refine va_sld hx hb hX hbl hbA hS hin1 dL_law_777 ?_
  refine lv_aload_n hx hb dL_law_778 rfl (lv_at hl 0 rfl) ?_
  refine lv_iload_n hx hb dL_law_779 rfl (lv_at hl 3 rfl) ?_
  refine lv_iconst (v := 2) hx hb dL_law_780 (by decide) ?_
  refine lv_iadd hx hb dL_law_781 ?_
  refine va_sld hx hb hX hbl hbA hS hin2 dL_law_782 ?_
  refine lc_vi (As := [.int (xs (Int32.toNatClampNeg (x3 + 1))), .int (xs (Int32.toNatClampNeg (x3 + 2)))]) (rest := []) xP_S hA1 (hd1 g u) ⟨hx, hb, hml, hown, hts⟩ hK hX0 hS hP hP2 (c_X9_rate hj l N (xs (Int32.toNatClampNeg (x3 + 1))) (xs (Int32.toNatClampNeg (x3 + 2))) f t r t' hq1) (cwV 2 hts gL_law_X9_rate rfl rfl rfl (by decide +kernel) ⟨Nat.le_of_ble_eq_true rfl, Nat.le_of_ble_eq_true rfl⟩) (va_recv hK hP (ci := 9) (q0 := 0) rfl rfl) rfl hl.1 rfl (Nat.le_of_ble_eq_true rfl) ⟨Nat.le_of_ble_eq_true rfl, Nat.le_of_ble_eq_true rfl⟩ dL_law_783 (fun H locs hP hP2 hS => ?_)
  refine lv_aload_n hx hb dL_law_786 rfl (lv_at hl 2 rfl) ?_
  refine lv_aload_n hx hb dL_law_787 rfl (lv_at hl 0 rfl) ?_
  refine lv_iload_n hx hb dL_law_788 rfl (lv_at hl 3 rfl) ?_
  refine lv_iconst (v := 1) hx hb dL_law_789 (by decide) ?_
  refine lv_iadd hx hb dL_law_790 ?_
  refine va_sld hx hb hX hbl hbA hS hin1 dL_law_791 ?_
  refine lv_aload_n hx hb dL_law_792 rfl (lv_at hl 0 rfl) ?_
  refine lv_iload_n hx hb dL_law_793 rfl (lv_at hl 3 rfl) ?_
  refine lv_iconst (v := 2) hx hb dL_law_794 (by decide) ?_
  refine lv_iadd hx hb dL_law_795 ?_
  refine va_sld hx hb hX hbl hbA hS hin2 dL_law_796 ?_
  refine lc_vi (As := [.int (xs (Int32.toNatClampNeg (x3 + 1))), .int (xs (Int32.toNatClampNeg (x3 + 2)))]) (rest := [.int r]) xR_S hA2 (hd2 f t') ⟨hx, hb, hml, hown, hts⟩ hK trivial hS hP2 hP (c_X10_rate hj2 l N (xs (Int32.toNatClampNeg (x3 + 1))) (xs (Int32.toNatClampNeg (x3 + 2))) g u r g' u' hq2) (cwV 2 hts gL_law_X10_rate rfl rfl rfl (by decide +kernel) ⟨Nat.le_of_ble_eq_true rfl, Nat.le_of_ble_eq_true rfl⟩) (va_recv hK hP2 (ci := 10) (q0 := 0) rfl rfl) rfl hl.1 rfl (Nat.le_of_ble_eq_true rfl) ⟨Nat.le_of_ble_eq_true rfl, Nat.le_of_ble_eq_true rfl⟩ dL_law_797 (fun H locs hP2 hP hS => ?_)
  refine lv_icmp_eq (tgt := 888) hx hb dL_law_800 (by decide) (fun _ => ?_) (fun h => absurd rfl h)
  exact kk f t' g' u' hI H locs ls hP hP2 hS hl
set_option maxHeartbeats 4000000 in
set_option maxRecDepth 100000 in
theorem law_keep {p : Program} {l : Launch} {e : Env} {s : State} {m : MethodId} {below : List Frame} {meth : Method} {c : Code} {D : va_G} {cy : Nat → ClassId} {ad ad2 sk sv : Nat → Nat} {b L : Nat} {xs : Nat → Int32} (C0 : lw_At p s m meth c b L xs) (hj : jP ad) (hj2 : jR ad2) (hdj : ∀ i j : Nat, i < 44 → j < 19 → ad i ≠ ad2 j) (hup : ∀ i : Nat, i < 44 → s.heap.size ≤ ad i) (hup2 : ∀ i : Nat, i < 19 → s.heap.size ≤ ad2 i) (hK : va_K D vwCl (tyA cy) s) (hX0 : xP ad sk sv s) {I : mM → Int64 → mM → Int64 → Prop} {N : Nat} (hs : S_keep I N) {x3 : Int32} (hin1 : vp_in (x3 + 1) L) (kk : ∀ (f : mM) (t : Int64) (g : mM) (u : Int64), I f t g u → ∀ (H : Heap) (locs : List Loc) (ls : Array Slot), va_P D vwCl (wP ad cy f t) H → va_P D vwCl (wR ad2 cy g u) H → va_S (fun q : Nat => s.heap.size ≤ q) s.heap H locs → lv_has ls 4 [(0, .ref b), (1, .ref (ad 0)), (2, .ref (ad2 0)), (3, .int x3)] → W p l e room_1 s m #[Value.ref b] below meth c H locs 63 7246 (lw_Z below #[Value.ref b] s) (F0 m 888 ls [])) (f : mM) (t : Int64) (g : mM) (u : Int64) (hI : I f t g u) (H : Heap) (locs : List Loc) (ls : Array Slot) (hP : va_P D vwCl (wP ad cy f t) H) (hP2 : va_P D vwCl (wR ad2 cy g u) H) (hS : va_S (fun q : Nat => s.heap.size ≤ q) s.heap H locs) (hl : lv_has ls 4 [(0, .ref b), (1, .ref (ad 0)), (2, .ref (ad2 0)), (3, .int x3)]) : W p l e room_1 s m #[Value.ref b] below meth c H locs 63 7246 (lw_Z below #[Value.ref b] s) (F0 m 805 ls []) := by
  obtain ⟨hx, hb, hr, hml, hown, hts0, hX, hbl, hlocks, hgv⟩ := id C0
  have hts : ∀ w ∈ wsL_law, w.before #[Value.ref b] s = true := fun w h => hts0 w (wsL_law_in w h)
  have hown : s.vm.findClass RL = some m.cls := hown
  have hbA : ¬ (fun q : Nat => s.heap.size ≤ q) b := Nat.not_le.mpr hbl
  have hA1 : ∀ q, aP ad q → s.heap.size ≤ q := fun q ⟨k, h1, h2⟩ => by rw [h2]; exact hup k h1
  have hA2 : ∀ q, aR ad2 q → s.heap.size ≤ q := fun q ⟨k, h1, h2⟩ => by rw [h2]; exact hup2 k h1
  have hd1 : ∀ (g : mM) (u : Int64) (k : Nat) (x : Nat × va_E), (wR ad2 cy g u)[k]? = some x → ¬ aP ad x.1 := fun g u k x hx => by
    obtain ⟨k2, h1, h2⟩ := (dR hj2 g u).2 k x hx
    rintro ⟨k1, h3, h4⟩
    exact hdj k1 k2 h3 h1 (by rw [← h4, ← h2])
  have hd2 : ∀ (f : mM) (t : Int64) (k : Nat) (x : Nat × va_E), (wP ad cy f t)[k]? = some x → ¬ aR ad2 x.1 := fun f t k x hx => by
    obtain ⟨k1, h1, h2⟩ := (dP hj f t).2 k x hx
    rintro ⟨k2, h3, h4⟩
    exact hdj k1 k2 h1 h3 (by rw [← h2, ← h4])
  obtain ⟨r, f', g', hq1, hq2, hI⟩ := hs f t g u hI (xs (Int32.toNatClampNeg (x3 + 1)))
  refine lv_aload_n hx hb dL_law_805 rfl (lv_at hl 1 rfl) ?_
  refine lv_aload_n hx hb dL_law_806 rfl (lv_at hl 0 rfl) ?_
  refine lv_iload_n hx hb dL_law_807 rfl (lv_at hl 3 rfl) ?_
  refine lv_iconst (v := 1) hx hb dL_law_808 (by decide) ?_
  refine lv_iadd hx hb dL_law_809 ?_
  refine va_sld hx hb hX hbl hbA hS hin1 dL_law_810 ?_
  refine lc_vi (As := [.int (xs (Int32.toNatClampNeg (x3 + 1)))]) (rest := []) xP_S hA1 (hd1 g u) ⟨hx, hb, hml, hown, hts⟩ hK hX0 hS hP hP2 (c_X9_keep hj l N (xs (Int32.toNatClampNeg (x3 + 1))) f t r f' hq1) (cwV 1 hts gL_law_X9_keep rfl rfl rfl (by decide +kernel) ⟨Nat.le_of_ble_eq_true rfl, Nat.le_of_ble_eq_true rfl⟩) (va_recv hK hP (ci := 9) (q0 := 0) rfl rfl) rfl hl.1 rfl (Nat.le_of_ble_eq_true rfl) ⟨Nat.le_of_ble_eq_true rfl, Nat.le_of_ble_eq_true rfl⟩ dL_law_811 (fun H locs hP hP2 hS => ?_)
  refine lv_aload_n hx hb dL_law_814 rfl (lv_at hl 2 rfl) ?_
  refine lv_aload_n hx hb dL_law_815 rfl (lv_at hl 0 rfl) ?_
  refine lv_iload_n hx hb dL_law_816 rfl (lv_at hl 3 rfl) ?_
  refine lv_iconst (v := 1) hx hb dL_law_817 (by decide) ?_
  refine lv_iadd hx hb dL_law_818 ?_
  refine va_sld hx hb hX hbl hbA hS hin1 dL_law_819 ?_
  refine lc_vi (As := [.int (xs (Int32.toNatClampNeg (x3 + 1)))]) (rest := [.int r]) xR_S hA2 (hd2 f' t) ⟨hx, hb, hml, hown, hts⟩ hK trivial hS hP2 hP (c_X10_keep hj2 l N (xs (Int32.toNatClampNeg (x3 + 1))) g u r g' hq2) (cwV 1 hts gL_law_X10_keep rfl rfl rfl (by decide +kernel) ⟨Nat.le_of_ble_eq_true rfl, Nat.le_of_ble_eq_true rfl⟩) (va_recv hK hP2 (ci := 10) (q0 := 0) rfl rfl) rfl hl.1 rfl (Nat.le_of_ble_eq_true rfl) ⟨Nat.le_of_ble_eq_true rfl, Nat.le_of_ble_eq_true rfl⟩ dL_law_820 (fun H locs hP2 hP hS => ?_)
  refine lv_icmp_eq (tgt := 888) hx hb dL_law_823 (by decide) (fun _ => ?_) (fun h => absurd rfl h)
  exact kk f' t g' u hI H locs ls hP hP2 hS hl
set_option maxHeartbeats 4000000 in
set_option maxRecDepth 100000 in
theorem law_back {p : Program} {l : Launch} {e : Env} {s : State} {m : MethodId} {below : List Frame} {meth : Method} {c : Code} {D : va_G} {cy : Nat → ClassId} {ad ad2 sk sv : Nat → Nat} {b L : Nat} {xs : Nat → Int32} (C0 : lw_At p s m meth c b L xs) (hj : jP ad) (hj2 : jR ad2) (hdj : ∀ i j : Nat, i < 44 → j < 19 → ad i ≠ ad2 j) (hup : ∀ i : Nat, i < 44 → s.heap.size ≤ ad i) (hup2 : ∀ i : Nat, i < 19 → s.heap.size ≤ ad2 i) (hK : va_K D vwCl (tyA cy) s) (hX0 : xP ad sk sv s) {I : mM → Int64 → mM → Int64 → Prop} {N : Nat} (hs : S_back I N) {x3 : Int32} (hin1 : vp_in (x3 + 1) L) (kk : ∀ (f : mM) (t : Int64) (g : mM) (u : Int64), I f t g u → ∀ (H : Heap) (locs : List Loc) (ls : Array Slot), va_P D vwCl (wP ad cy f t) H → va_P D vwCl (wR ad2 cy g u) H → va_S (fun q : Nat => s.heap.size ≤ q) s.heap H locs → lv_has ls 4 [(0, .ref b), (1, .ref (ad 0)), (2, .ref (ad2 0)), (3, .int x3)] → W p l e room_1 s m #[Value.ref b] below meth c H locs 63 7246 (lw_Z below #[Value.ref b] s) (F0 m 888 ls [])) (f : mM) (t : Int64) (g : mM) (u : Int64) (hI : I f t g u) (H : Heap) (locs : List Loc) (ls : Array Slot) (hP : va_P D vwCl (wP ad cy f t) H) (hP2 : va_P D vwCl (wR ad2 cy g u) H) (hS : va_S (fun q : Nat => s.heap.size ≤ q) s.heap H locs) (hl : lv_has ls 4 [(0, .ref b), (1, .ref (ad 0)), (2, .ref (ad2 0)), (3, .int x3)]) : W p l e room_1 s m #[Value.ref b] below meth c H locs 63 7246 (lw_Z below #[Value.ref b] s) (F0 m 828 ls []) := by
  obtain ⟨hx, hb, hr, hml, hown, hts0, hX, hbl, hlocks, hgv⟩ := id C0
  have hts : ∀ w ∈ wsL_law, w.before #[Value.ref b] s = true := fun w h => hts0 w (wsL_law_in w h)
  have hown : s.vm.findClass RL = some m.cls := hown
  have hbA : ¬ (fun q : Nat => s.heap.size ≤ q) b := Nat.not_le.mpr hbl
  have hA1 : ∀ q, aP ad q → s.heap.size ≤ q := fun q ⟨k, h1, h2⟩ => by rw [h2]; exact hup k h1
  have hA2 : ∀ q, aR ad2 q → s.heap.size ≤ q := fun q ⟨k, h1, h2⟩ => by rw [h2]; exact hup2 k h1
  have hd1 : ∀ (g : mM) (u : Int64) (k : Nat) (x : Nat × va_E), (wR ad2 cy g u)[k]? = some x → ¬ aP ad x.1 := fun g u k x hx => by
    obtain ⟨k2, h1, h2⟩ := (dR hj2 g u).2 k x hx
    rintro ⟨k1, h3, h4⟩
    exact hdj k1 k2 h3 h1 (by rw [← h4, ← h2])
  have hd2 : ∀ (f : mM) (t : Int64) (k : Nat) (x : Nat × va_E), (wP ad cy f t)[k]? = some x → ¬ aR ad2 x.1 := fun f t k x hx => by
    obtain ⟨k1, h1, h2⟩ := (dP hj f t).2 k x hx
    rintro ⟨k2, h3, h4⟩
    exact hdj k1 k2 h1 h3 (by rw [← h2, ← h4])
  obtain ⟨r, f', g', hq1, hq2, hI⟩ := hs f t g u hI (xs (Int32.toNatClampNeg (x3 + 1)))
  refine lv_aload_n hx hb dL_law_828 rfl (lv_at hl 1 rfl) ?_
  refine lv_aload_n hx hb dL_law_829 rfl (lv_at hl 0 rfl) ?_
  refine lv_iload_n hx hb dL_law_830 rfl (lv_at hl 3 rfl) ?_
  refine lv_iconst (v := 1) hx hb dL_law_831 (by decide) ?_
  refine lv_iadd hx hb dL_law_832 ?_
  refine va_sld hx hb hX hbl hbA hS hin1 dL_law_833 ?_
  refine lc_vi (As := [.int (xs (Int32.toNatClampNeg (x3 + 1)))]) (rest := []) xP_S hA1 (hd1 g u) ⟨hx, hb, hml, hown, hts⟩ hK hX0 hS hP hP2 (c_X9_back hj l N (xs (Int32.toNatClampNeg (x3 + 1))) f t r f' hq1) (cwV 1 hts gL_law_X9_back rfl rfl rfl (by decide +kernel) ⟨Nat.le_of_ble_eq_true rfl, Nat.le_of_ble_eq_true rfl⟩) (va_recv hK hP (ci := 9) (q0 := 0) rfl rfl) rfl hl.1 rfl (Nat.le_of_ble_eq_true rfl) ⟨Nat.le_of_ble_eq_true rfl, Nat.le_of_ble_eq_true rfl⟩ dL_law_834 (fun H locs hP hP2 hS => ?_)
  refine lv_aload_n hx hb dL_law_837 rfl (lv_at hl 2 rfl) ?_
  refine lv_aload_n hx hb dL_law_838 rfl (lv_at hl 0 rfl) ?_
  refine lv_iload_n hx hb dL_law_839 rfl (lv_at hl 3 rfl) ?_
  refine lv_iconst (v := 1) hx hb dL_law_840 (by decide) ?_
  refine lv_iadd hx hb dL_law_841 ?_
  refine va_sld hx hb hX hbl hbA hS hin1 dL_law_842 ?_
  refine lc_vi (As := [.int (xs (Int32.toNatClampNeg (x3 + 1)))]) (rest := [.int r]) xR_S hA2 (hd2 f' t) ⟨hx, hb, hml, hown, hts⟩ hK trivial hS hP2 hP (c_X10_back hj2 l N (xs (Int32.toNatClampNeg (x3 + 1))) g u r g' hq2) (cwV 1 hts gL_law_X10_back rfl rfl rfl (by decide +kernel) ⟨Nat.le_of_ble_eq_true rfl, Nat.le_of_ble_eq_true rfl⟩) (va_recv hK hP2 (ci := 10) (q0 := 0) rfl rfl) rfl hl.1 rfl (Nat.le_of_ble_eq_true rfl) ⟨Nat.le_of_ble_eq_true rfl, Nat.le_of_ble_eq_true rfl⟩ dL_law_843 (fun H locs hP2 hP hS => ?_)
  refine lv_icmp_eq (tgt := 888) hx hb dL_law_846 (by decide) (fun _ => ?_) (fun h => absurd rfl h)
  exact kk f' t g' u hI H locs ls hP hP2 hS hl
set_option maxHeartbeats 4000000 in
set_option maxRecDepth 100000 in
theorem law_count {p : Program} {l : Launch} {e : Env} {s : State} {m : MethodId} {below : List Frame} {meth : Method} {c : Code} {D : va_G} {cy : Nat → ClassId} {ad ad2 sk sv : Nat → Nat} {b L : Nat} {xs : Nat → Int32} (C0 : lw_At p s m meth c b L xs) (hj : jP ad) (hj2 : jR ad2) (hdj : ∀ i j : Nat, i < 44 → j < 19 → ad i ≠ ad2 j) (hup : ∀ i : Nat, i < 44 → s.heap.size ≤ ad i) (hup2 : ∀ i : Nat, i < 19 → s.heap.size ≤ ad2 i) (hK : va_K D vwCl (tyA cy) s) (hX0 : xP ad sk sv s) {I : mM → Int64 → mM → Int64 → Prop} {N : Nat} (hs : S_count I N) {x3 : Int32} (hin1 : vp_in (x3 + 1) L) (kk : ∀ (f : mM) (t : Int64) (g : mM) (u : Int64), I f t g u → ∀ (H : Heap) (locs : List Loc) (ls : Array Slot), va_P D vwCl (wP ad cy f t) H → va_P D vwCl (wR ad2 cy g u) H → va_S (fun q : Nat => s.heap.size ≤ q) s.heap H locs → lv_has ls 4 [(0, .ref b), (1, .ref (ad 0)), (2, .ref (ad2 0)), (3, .int x3)] → W p l e room_1 s m #[Value.ref b] below meth c H locs 63 7246 (lw_Z below #[Value.ref b] s) (F0 m 888 ls [])) (f : mM) (t : Int64) (g : mM) (u : Int64) (hI : I f t g u) (H : Heap) (locs : List Loc) (ls : Array Slot) (hP : va_P D vwCl (wP ad cy f t) H) (hP2 : va_P D vwCl (wR ad2 cy g u) H) (hS : va_S (fun q : Nat => s.heap.size ≤ q) s.heap H locs) (hl : lv_has ls 4 [(0, .ref b), (1, .ref (ad 0)), (2, .ref (ad2 0)), (3, .int x3)]) : W p l e room_1 s m #[Value.ref b] below meth c H locs 63 7246 (lw_Z below #[Value.ref b] s) (F0 m 851 ls []) := by
  obtain ⟨hx, hb, hr, hml, hown, hts0, hX, hbl, hlocks, hgv⟩ := id C0
  have hts : ∀ w ∈ wsL_law, w.before #[Value.ref b] s = true := fun w h => hts0 w (wsL_law_in w h)
  have hown : s.vm.findClass RL = some m.cls := hown
  have hbA : ¬ (fun q : Nat => s.heap.size ≤ q) b := Nat.not_le.mpr hbl
  have hA1 : ∀ q, aP ad q → s.heap.size ≤ q := fun q ⟨k, h1, h2⟩ => by rw [h2]; exact hup k h1
  have hA2 : ∀ q, aR ad2 q → s.heap.size ≤ q := fun q ⟨k, h1, h2⟩ => by rw [h2]; exact hup2 k h1
  have hd1 : ∀ (g : mM) (u : Int64) (k : Nat) (x : Nat × va_E), (wR ad2 cy g u)[k]? = some x → ¬ aP ad x.1 := fun g u k x hx => by
    obtain ⟨k2, h1, h2⟩ := (dR hj2 g u).2 k x hx
    rintro ⟨k1, h3, h4⟩
    exact hdj k1 k2 h3 h1 (by rw [← h4, ← h2])
  have hd2 : ∀ (f : mM) (t : Int64) (k : Nat) (x : Nat × va_E), (wP ad cy f t)[k]? = some x → ¬ aR ad2 x.1 := fun f t k x hx => by
    obtain ⟨k1, h1, h2⟩ := (dP hj f t).2 k x hx
    rintro ⟨k2, h3, h4⟩
    exact hdj k1 k2 h1 h3 (by rw [← h2, ← h4])
  obtain ⟨r, g', hq1, hq2, hI⟩ := hs f t g u hI (xs (Int32.toNatClampNeg (x3 + 1)))
  refine lv_aload_n hx hb dL_law_851 rfl (lv_at hl 1 rfl) ?_
  refine lv_aload_n hx hb dL_law_852 rfl (lv_at hl 0 rfl) ?_
  refine lv_iload_n hx hb dL_law_853 rfl (lv_at hl 3 rfl) ?_
  refine lv_iconst (v := 1) hx hb dL_law_854 (by decide) ?_
  refine lv_iadd hx hb dL_law_855 ?_
  refine va_sld hx hb hX hbl hbA hS hin1 dL_law_856 ?_
  refine lc_vi (As := [.int (xs (Int32.toNatClampNeg (x3 + 1)))]) (rest := []) xP_S hA1 (hd1 g u) ⟨hx, hb, hml, hown, hts⟩ hK hX0 hS hP hP2 (c_X9_count hj l N (xs (Int32.toNatClampNeg (x3 + 1))) f t r hq1) (cwV 1 hts gL_law_X9_count rfl rfl rfl (by decide +kernel) ⟨Nat.le_of_ble_eq_true rfl, Nat.le_of_ble_eq_true rfl⟩) (va_recv hK hP (ci := 9) (q0 := 0) rfl rfl) rfl hl.1 rfl (Nat.le_of_ble_eq_true rfl) ⟨Nat.le_of_ble_eq_true rfl, Nat.le_of_ble_eq_true rfl⟩ dL_law_857 (fun H locs hP hP2 hS => ?_)
  refine lv_aload_n hx hb dL_law_860 rfl (lv_at hl 2 rfl) ?_
  refine lv_aload_n hx hb dL_law_861 rfl (lv_at hl 0 rfl) ?_
  refine lv_iload_n hx hb dL_law_862 rfl (lv_at hl 3 rfl) ?_
  refine lv_iconst (v := 1) hx hb dL_law_863 (by decide) ?_
  refine lv_iadd hx hb dL_law_864 ?_
  refine va_sld hx hb hX hbl hbA hS hin1 dL_law_865 ?_
  refine lc_vi (As := [.int (xs (Int32.toNatClampNeg (x3 + 1)))]) (rest := [.int r]) xR_S hA2 (hd2 f t) ⟨hx, hb, hml, hown, hts⟩ hK trivial hS hP2 hP (c_X10_count hj2 l N (xs (Int32.toNatClampNeg (x3 + 1))) g u r g' hq2) (cwV 1 hts gL_law_X10_count rfl rfl rfl (by decide +kernel) ⟨Nat.le_of_ble_eq_true rfl, Nat.le_of_ble_eq_true rfl⟩) (va_recv hK hP2 (ci := 10) (q0 := 0) rfl rfl) rfl hl.1 rfl (Nat.le_of_ble_eq_true rfl) ⟨Nat.le_of_ble_eq_true rfl, Nat.le_of_ble_eq_true rfl⟩ dL_law_866 (fun H locs hP2 hP hS => ?_)
  refine lv_icmp_eq (tgt := 888) hx hb dL_law_869 (by decide) (fun _ => ?_) (fun h => absurd rfl h)
  exact kk f t g' u hI H locs ls hP hP2 hS hl
set_option maxHeartbeats 4000000 in
set_option maxRecDepth 100000 in
theorem law_trace {p : Program} {l : Launch} {e : Env} {s : State} {m : MethodId} {below : List Frame} {meth : Method} {c : Code} {D : va_G} {cy : Nat → ClassId} {ad ad2 sk sv : Nat → Nat} {b L : Nat} {xs : Nat → Int32} (C0 : lw_At p s m meth c b L xs) (hj : jP ad) (hj2 : jR ad2) (hdj : ∀ i j : Nat, i < 44 → j < 19 → ad i ≠ ad2 j) (hup : ∀ i : Nat, i < 44 → s.heap.size ≤ ad i) (hup2 : ∀ i : Nat, i < 19 → s.heap.size ≤ ad2 i) (hK : va_K D vwCl (tyA cy) s) (hX0 : xP ad sk sv s) {I : mM → Int64 → mM → Int64 → Prop} {N : Nat} (hs : S_trace I N) {x3 : Int32}  (kk : ∀ (f : mM) (t : Int64) (g : mM) (u : Int64), I f t g u → ∀ (H : Heap) (locs : List Loc) (ls : Array Slot), va_P D vwCl (wP ad cy f t) H → va_P D vwCl (wR ad2 cy g u) H → va_S (fun q : Nat => s.heap.size ≤ q) s.heap H locs → lv_has ls 4 [(0, .ref b), (1, .ref (ad 0)), (2, .ref (ad2 0)), (3, .int x3)] → W p l e room_1 s m #[Value.ref b] below meth c H locs 63 7246 (lw_Z below #[Value.ref b] s) (F0 m 888 ls [])) (f : mM) (t : Int64) (g : mM) (u : Int64) (hI : I f t g u) (H : Heap) (locs : List Loc) (ls : Array Slot) (hP : va_P D vwCl (wP ad cy f t) H) (hP2 : va_P D vwCl (wR ad2 cy g u) H) (hS : va_S (fun q : Nat => s.heap.size ≤ q) s.heap H locs) (hl : lv_has ls 4 [(0, .ref b), (1, .ref (ad 0)), (2, .ref (ad2 0)), (3, .int x3)]) : W p l e room_1 s m #[Value.ref b] below meth c H locs 63 7246 (lw_Z below #[Value.ref b] s) (F0 m 874 ls []) := by
  obtain ⟨hx, hb, hr, hml, hown, hts0, hX, hbl, hlocks, hgv⟩ := id C0
  have hts : ∀ w ∈ wsL_law, w.before #[Value.ref b] s = true := fun w h => hts0 w (wsL_law_in w h)
  have hown : s.vm.findClass RL = some m.cls := hown
  have hbA : ¬ (fun q : Nat => s.heap.size ≤ q) b := Nat.not_le.mpr hbl
  have hA1 : ∀ q, aP ad q → s.heap.size ≤ q := fun q ⟨k, h1, h2⟩ => by rw [h2]; exact hup k h1
  have hA2 : ∀ q, aR ad2 q → s.heap.size ≤ q := fun q ⟨k, h1, h2⟩ => by rw [h2]; exact hup2 k h1
  have hd1 : ∀ (g : mM) (u : Int64) (k : Nat) (x : Nat × va_E), (wR ad2 cy g u)[k]? = some x → ¬ aP ad x.1 := fun g u k x hx => by
    obtain ⟨k2, h1, h2⟩ := (dR hj2 g u).2 k x hx
    rintro ⟨k1, h3, h4⟩
    exact hdj k1 k2 h3 h1 (by rw [← h4, ← h2])
  have hd2 : ∀ (f : mM) (t : Int64) (k : Nat) (x : Nat × va_E), (wP ad cy f t)[k]? = some x → ¬ aR ad2 x.1 := fun f t k x hx => by
    obtain ⟨k1, h1, h2⟩ := (dP hj f t).2 k x hx
    rintro ⟨k2, h3, h4⟩
    exact hdj k1 k2 h1 h3 (by rw [← h2, ← h4])
  obtain ⟨r, g', hq1, hq2, hI⟩ := hs f t g u hI
  refine lv_aload_n hx hb dL_law_874 rfl (lv_at hl 1 rfl) ?_
  refine lc_vl (As := []) (rest := []) xP_S hA1 (hd1 g u) ⟨hx, hb, hml, hown, hts⟩ hK hX0 hS hP hP2 (c_X9_trace hj l f t r hq1) (cwV 0 hts gL_law_X9_trace rfl rfl rfl (by decide +kernel) ⟨Nat.le_of_ble_eq_true rfl, Nat.le_of_ble_eq_true rfl⟩) (va_recv hK hP (ci := 9) (q0 := 0) rfl rfl) rfl hl.1 rfl (Nat.le_of_ble_eq_true rfl) ⟨Nat.le_of_ble_eq_true rfl, Nat.le_of_ble_eq_true rfl⟩ dL_law_875 (fun H locs hP hP2 hS => ?_)
  refine lv_aload_n hx hb dL_law_878 rfl (lv_at hl 2 rfl) ?_
  refine lc_vl (As := []) (rest := [.long r]) xR_S hA2 (hd2 f t) ⟨hx, hb, hml, hown, hts⟩ hK trivial hS hP2 hP (c_X10_trace hj2 l g u r g' hq2) (cwV 0 hts gL_law_X10_trace rfl rfl rfl (by decide +kernel) ⟨Nat.le_of_ble_eq_true rfl, Nat.le_of_ble_eq_true rfl⟩) (va_recv hK hP2 (ci := 10) (q0 := 0) rfl rfl) rfl hl.1 rfl (Nat.le_of_ble_eq_true rfl) ⟨Nat.le_of_ble_eq_true rfl, Nat.le_of_ble_eq_true rfl⟩ dL_law_879 (fun H locs hP2 hP hS => ?_)
  refine W.lcmp hx hb dL_law_882 ?_
  refine lv_if_eq (tgt := 888) hx hb dL_law_883 (by decide) (fun _ => ?_) (fun h => absurd (lg_self r) h)
  exact kk f t g' u hI H locs ls hP hP2 hS hl
set_option maxHeartbeats 4000000 in
set_option maxRecDepth 100000 in
/-- the law's loop -/
theorem law_loop {p : Program} {l : Launch} {e : Env} {s : State} {m : MethodId} {below : List Frame} {meth : Method} {c : Code} {D : va_G} {cy : Nat → ClassId} {ad ad2 sk sv : Nat → Nat} {b L : Nat} {xs : Nat → Int32} (C0 : lw_At p s m meth c b L xs) (hj : jP ad) (hj2 : jR ad2) (hdj : ∀ i j : Nat, i < 44 → j < 19 → ad i ≠ ad2 j) (hup : ∀ i : Nat, i < 44 → s.heap.size ≤ ad i) (hup2 : ∀ i : Nat, i < 19 → s.heap.size ≤ ad2 i) (hK : va_K D vwCl (tyA cy) s) (hX0 : xP ad sk sv s) (hL : L ≤ 2560) {I : mM → Int64 → mM → Int64 → Prop} {N : Nat} (hs : Sims I N) : ∀ (n i : Nat), i ≤ L + 5 → L + 6 ≤ i + n → ∀ (f : mM) (t : Int64) (g : mM) (u : Int64), I f t g u → ∀ (H : Heap) (locs : List Loc) (ls : Array Slot), va_P D vwCl (wP ad cy f t) H → va_P D vwCl (wR ad2 cy g u) H → va_S (fun q : Nat => s.heap.size ≤ q) s.heap H locs → lv_has ls 4 [(0, .ref b), (1, .ref (ad 0)), (2, .ref (ad2 0)), (3, .int (nI i))] → W p l e room_1 s m #[Value.ref b] below meth c H locs 63 7246 (lw_Z below #[Value.ref b] s) (F0 m 18 ls []) := by
  obtain ⟨hx, hb, hr, hml, hown, hts0, hX, hbl, hlocks, hgv⟩ := id C0
  have hbA : ¬ (fun q : Nat => s.heap.size ≤ q) b := Nat.not_le.mpr hbl
  obtain ⟨s_type, s_clear, s_marsh, s_plank, s_person, s_errand, s_way, s_go, s_steps, s_days, s_went, s_frost, s_cart, s_exchange, s_all, s_often, s_better, s_spent, s_tell, s_rate, s_keep, s_back, s_count, s_trace⟩ := hs
  intro n
  induction n with
  | zero =>
    intro i h1 h2
    exact absurd h2 (by omega)
  | succ n ih =>
    intro i hi hn f t g u hI H locs ls hP hP2 hS hl
    refine lv_iload_n hx hb dL_law_18 rfl (lv_at hl 3 rfl) ?_
    refine lv_aload_n hx hb dL_law_19 rfl (lv_at hl 0 rfl) ?_
    refine va_slen hx hb hX hbl hbA hS dL_law_20 ?_
    refine lv_iconst (v := 5) hx hb dL_law_21 (by decide) ?_
    refine lv_isub hx hb dL_law_22 ?_
    refine lv_icmp_gt (tgt := 894) hx hb dL_law_23 (by decide) (fun cg => ?_) (fun cg => ?_)
    · refine lv_iconst (v := 1) hx hb dL_law_894 (by decide) ?_
      refine va_forget (fun q hq => hS.2.2 q hq) ?_
      refine W.widen (k := 600000) (n := 7302250) (Nat.le_of_ble_eq_true rfl) (Nat.le_of_ble_eq_true rfl) ?_
      exact lw_ret hx hb hr hlocks dL_law_895
    · have hi5 : i + 5 ≤ L := law_in hL hi cg
      have hin0 : vp_in (nI i) L := vp_in_nI (by omega) (by omega)
      have hin1 : vp_in (nI i + 1) L := by rw [show nI i + 1 = nI (i + 1) from nI_add i 1]; exact vp_in_nI (by omega) (by omega)
      have hin2 : vp_in (nI i + 2) L := by rw [show nI i + 2 = nI (i + 2) from nI_add i 2]; exact vp_in_nI (by omega) (by omega)
      have hin3 : vp_in (nI i + 3) L := by rw [show nI i + 3 = nI (i + 3) from nI_add i 3]; exact vp_in_nI (by omega) (by omega)
      have hin4 : vp_in (nI i + 4) L := by rw [show nI i + 4 = nI (i + 4) from nI_add i 4]; exact vp_in_nI (by omega) (by omega)
      refine lv_aload_n hx hb dL_law_26 rfl (lv_at hl 0 rfl) ?_
      refine lv_iload_n hx hb dL_law_27 rfl (lv_at hl 3 rfl) ?_
      refine va_sld hx hb hX hbl hbA hS hin0 dL_law_28 ?_
      refine lv_bipush (v := 31) hx hb dL_law_29 (by decide) ?_
      refine lv_iand hx hb dL_law_31 ?_
      have kk : ∀ (f : mM) (t : Int64) (g : mM) (u : Int64), I f t g u → ∀ (H : Heap) (locs : List Loc) (ls : Array Slot), va_P D vwCl (wP ad cy f t) H → va_P D vwCl (wR ad2 cy g u) H → va_S (fun q : Nat => s.heap.size ≤ q) s.heap H locs → lv_has ls 4 [(0, .ref b), (1, .ref (ad 0)), (2, .ref (ad2 0)), (3, .int (nI i))] → W p l e room_1 s m #[Value.ref b] below meth c H locs 63 7246 (lw_Z below #[Value.ref b] s) (F0 m 888 ls []) := by
        intro f t g u hI H locs ls hP hP2 hS hl
        refine lv_iinc (v := nI (i + 5)) (lv' := [(3, .int (nI (i + 5))), (0, .ref b), (1, .ref (ad 0)), (2, .ref (ad2 0))]) hx hb dL_law_888 hl (k := 3) rfl (nI_add i 5) (by decide) rfl (fun ls hl => ?_)
        refine lv_goto (tgt := 18) hx hb dL_law_891 (by decide) ?_
        exact ih (i + 5) (by omega) (by omega) f t g u hI H locs ls hP hP2 hS (lv_sub hl [1, 2, 3, 0] rfl)
      refine lv_topi (fun w0 ew0 => ?_)
      by_cases c0 : w0 = 0
      · refine lv_tableIn (tgt := 144) hx hb dL_law_32 (by rw [c0]; decide) (by rw [c0]; decide) (by rw [c0]; rfl) (by decide) ?_
        exact law_type C0 hj hj2 hdj hup hup2 hK hX0 s_type hin1 hin2 hin3 kk f t g u hI H locs ls hP hP2 hS hl
      by_cases c1 : w0 = 1
      · refine lv_tableIn (tgt := 207) hx hb dL_law_32 (by rw [c1]; decide) (by rw [c1]; decide) (by rw [c1]; rfl) (by decide) ?_
        exact law_clear C0 hj hj2 hdj hup hup2 hK hX0 s_clear  kk f t g u hI H locs ls hP hP2 hS hl
      by_cases c2 : w0 = 2
      · refine lv_tableIn (tgt := 220) hx hb dL_law_32 (by rw [c2]; decide) (by rw [c2]; decide) (by rw [c2]; rfl) (by decide) ?_
        exact law_marsh C0 hj hj2 hdj hup hup2 hK hX0 s_marsh  kk f t g u hI H locs ls hP hP2 hS hl
      by_cases c3 : w0 = 3
      · refine lv_tableIn (tgt := 233) hx hb dL_law_32 (by rw [c3]; decide) (by rw [c3]; decide) (by rw [c3]; rfl) (by decide) ?_
        exact law_plank C0 hj hj2 hdj hup hup2 hK hX0 s_plank hin1 hin2 kk f t g u hI H locs ls hP hP2 hS hl
      by_cases c4 : w0 = 4
      · refine lv_tableIn (tgt := 266) hx hb dL_law_32 (by rw [c4]; decide) (by rw [c4]; decide) (by rw [c4]; rfl) (by decide) ?_
        exact law_person C0 hj hj2 hdj hup hup2 hK hX0 s_person hin1 hin2 kk f t g u hI H locs ls hP hP2 hS hl
      by_cases c5 : w0 = 5
      · refine lv_tableIn (tgt := 299) hx hb dL_law_32 (by rw [c5]; decide) (by rw [c5]; decide) (by rw [c5]; rfl) (by decide) ?_
        exact law_errand C0 hj hj2 hdj hup hup2 hK hX0 s_errand hin1 hin2 kk f t g u hI H locs ls hP hP2 hS hl
      by_cases c6 : w0 = 6
      · refine lv_tableIn (tgt := 332) hx hb dL_law_32 (by rw [c6]; decide) (by rw [c6]; decide) (by rw [c6]; rfl) (by decide) ?_
        exact law_way C0 hj hj2 hdj hup hup2 hK hX0 s_way hin1 hin2 hin3 hin4 kk f t g u hI H locs ls hP hP2 hS hl
      by_cases c7 : w0 = 7
      · refine lv_tableIn (tgt := 385) hx hb dL_law_32 (by rw [c7]; decide) (by rw [c7]; decide) (by rw [c7]; rfl) (by decide) ?_
        exact law_go C0 hj hj2 hdj hup hup2 hK hX0 s_go hin1 hin2 hin3 kk f t g u hI H locs ls hP hP2 hS hl
      by_cases c8 : w0 = 8
      · refine lv_tableIn (tgt := 428) hx hb dL_law_32 (by rw [c8]; decide) (by rw [c8]; decide) (by rw [c8]; rfl) (by decide) ?_
        exact law_steps C0 hj hj2 hdj hup hup2 hK hX0 s_steps hin1 hin2 kk f t g u hI H locs ls hP hP2 hS hl
      by_cases c9 : w0 = 9
      · refine lv_tableIn (tgt := 461) hx hb dL_law_32 (by rw [c9]; decide) (by rw [c9]; decide) (by rw [c9]; rfl) (by decide) ?_
        exact law_days C0 hj hj2 hdj hup hup2 hK hX0 s_days hin1 kk f t g u hI H locs ls hP hP2 hS hl
      by_cases c10 : w0 = 10
      · refine lv_tableIn (tgt := 484) hx hb dL_law_32 (by rw [c10]; decide) (by rw [c10]; decide) (by rw [c10]; rfl) (by decide) ?_
        exact law_went C0 hj hj2 hdj hup hup2 hK hX0 s_went hin1 hin2 kk f t g u hI H locs ls hP hP2 hS hl
      by_cases c11 : w0 = 11
      · refine lv_tableIn (tgt := 517) hx hb dL_law_32 (by rw [c11]; decide) (by rw [c11]; decide) (by rw [c11]; rfl) (by decide) ?_
        exact law_frost C0 hj hj2 hdj hup hup2 hK hX0 s_frost  kk f t g u hI H locs ls hP hP2 hS hl
      by_cases c12 : w0 = 12
      · refine lv_tableIn (tgt := 530) hx hb dL_law_32 (by rw [c12]; decide) (by rw [c12]; decide) (by rw [c12]; rfl) (by decide) ?_
        exact law_cart C0 hj hj2 hdj hup hup2 hK hX0 s_cart hin1 kk f t g u hI H locs ls hP hP2 hS hl
      by_cases c13 : w0 = 13
      · refine lv_tableIn (tgt := 553) hx hb dL_law_32 (by rw [c13]; decide) (by rw [c13]; decide) (by rw [c13]; rfl) (by decide) ?_
        exact law_exchange C0 hj hj2 hdj hup hup2 hK hX0 s_exchange hin1 hin2 kk f t g u hI H locs ls hP hP2 hS hl
      by_cases c14 : w0 = 14
      · refine lv_tableIn (tgt := 586) hx hb dL_law_32 (by rw [c14]; decide) (by rw [c14]; decide) (by rw [c14]; rfl) (by decide) ?_
        exact law_all C0 hj hj2 hdj hup hup2 hK hX0 s_all hin1 kk f t g u hI H locs ls hP hP2 hS hl
      by_cases c15 : w0 = 15
      · refine lv_tableIn (tgt := 609) hx hb dL_law_32 (by rw [c15]; decide) (by rw [c15]; decide) (by rw [c15]; rfl) (by decide) ?_
        exact law_often C0 hj hj2 hdj hup hup2 hK hX0 s_often hin1 hin2 hin3 hin4 kk f t g u hI H locs ls hP hP2 hS hl
      by_cases c16 : w0 = 16
      · refine lv_tableIn (tgt := 662) hx hb dL_law_32 (by rw [c16]; decide) (by rw [c16]; decide) (by rw [c16]; rfl) (by decide) ?_
        exact law_better C0 hj hj2 hdj hup hup2 hK hX0 s_better hin1 hin2 hin3 hin4 kk f t g u hI H locs ls hP hP2 hS hl
      by_cases c17 : w0 = 17
      · refine lv_tableIn (tgt := 715) hx hb dL_law_32 (by rw [c17]; decide) (by rw [c17]; decide) (by rw [c17]; rfl) (by decide) ?_
        exact law_spent C0 hj hj2 hdj hup hup2 hK hX0 s_spent hin1 hin2 kk f t g u hI H locs ls hP hP2 hS hl
      by_cases c18 : w0 = 18
      · refine lv_tableIn (tgt := 748) hx hb dL_law_32 (by rw [c18]; decide) (by rw [c18]; decide) (by rw [c18]; rfl) (by decide) ?_
        exact law_tell C0 hj hj2 hdj hup hup2 hK hX0 s_tell hin1 kk f t g u hI H locs ls hP hP2 hS hl
      by_cases c19 : w0 = 19
      · refine lv_tableIn (tgt := 772) hx hb dL_law_32 (by rw [c19]; decide) (by rw [c19]; decide) (by rw [c19]; rfl) (by decide) ?_
        exact law_rate C0 hj hj2 hdj hup hup2 hK hX0 s_rate hin1 hin2 kk f t g u hI H locs ls hP hP2 hS hl
      by_cases c20 : w0 = 20
      · refine lv_tableIn (tgt := 805) hx hb dL_law_32 (by rw [c20]; decide) (by rw [c20]; decide) (by rw [c20]; rfl) (by decide) ?_
        exact law_keep C0 hj hj2 hdj hup hup2 hK hX0 s_keep hin1 kk f t g u hI H locs ls hP hP2 hS hl
      by_cases c21 : w0 = 21
      · refine lv_tableIn (tgt := 828) hx hb dL_law_32 (by rw [c21]; decide) (by rw [c21]; decide) (by rw [c21]; rfl) (by decide) ?_
        exact law_back C0 hj hj2 hdj hup hup2 hK hX0 s_back hin1 kk f t g u hI H locs ls hP hP2 hS hl
      by_cases c22 : w0 = 22
      · refine lv_tableIn (tgt := 851) hx hb dL_law_32 (by rw [c22]; decide) (by rw [c22]; decide) (by rw [c22]; rfl) (by decide) ?_
        exact law_count C0 hj hj2 hdj hup hup2 hK hX0 s_count hin1 kk f t g u hI H locs ls hP hP2 hS hl
      by_cases c23 : w0 = 23
      · refine lv_tableIn (tgt := 874) hx hb dL_law_32 (by rw [c23]; decide) (by rw [c23]; decide) (by rw [c23]; rfl) (by decide) ?_
        exact law_trace C0 hj hj2 hdj hup hup2 hK hX0 s_trace  kk f t g u hI H locs ls hP hP2 hS hl
      refine lv_tableOut (tgt := 888) hx hb dL_law_32 (by have h0 := lv_neT c0 (a := 0) rfl; have h1 := lv_neT c1 (a := 1) rfl; have h2 := lv_neT c2 (a := 2) rfl; have h3 := lv_neT c3 (a := 3) rfl; have h4 := lv_neT c4 (a := 4) rfl; have h5 := lv_neT c5 (a := 5) rfl; have h6 := lv_neT c6 (a := 6) rfl; have h7 := lv_neT c7 (a := 7) rfl; have h8 := lv_neT c8 (a := 8) rfl; have h9 := lv_neT c9 (a := 9) rfl; have h10 := lv_neT c10 (a := 10) rfl; have h11 := lv_neT c11 (a := 11) rfl; have h12 := lv_neT c12 (a := 12) rfl; have h13 := lv_neT c13 (a := 13) rfl; have h14 := lv_neT c14 (a := 14) rfl; have h15 := lv_neT c15 (a := 15) rfl; have h16 := lv_neT c16 (a := 16) rfl; have h17 := lv_neT c17 (a := 17) rfl; have h18 := lv_neT c18 (a := 18) rfl; have h19 := lv_neT c19 (a := 19) rfl; have h20 := lv_neT c20 (a := 20) rfl; have h21 := lv_neT c21 (a := 21) rfl; have h22 := lv_neT c22 (a := 22) rfl; have h23 := lv_neT c23 (a := 23) rfl; omega) (by decide) ?_
      exact kk f t g u hI H locs ls hP hP2 hS hl
