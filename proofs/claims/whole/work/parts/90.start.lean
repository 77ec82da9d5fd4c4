set_option maxRecDepth 20000 in
theorem nF_in : ∀ w ∈ nFs.map (fun q => Cond.fieldLinkNest q.1 q.2.1 q.2.2.1 q.2.2.2.1 q.2.2.2.2.1 q.2.2.2.2.2), w ∈ lw_tbl := mem_r _ [86, 87, 101, 102, 103, 104, 106, 107, 108, 109, 110, 111, 112, 114, 115, 116, 118, 119, 120, 121, 123, 124, 126, 127, 129, 131, 132, 133, 135, 136, 138, 139, 140, 142, 143, 144, 146, 147, 148, 185, 213, 214, 215, 216, 218, 220, 222, 223, 276, 278, 280, 282, 321] rfl
set_option maxRecDepth 20000 in
theorem nM_in : ∀ w ∈ nMs.map (fun q => Cond.methodLinkNest q.1 q.2.1 q.2.2.1 q.2.2.2), w ∈ lw_tbl := mem_r _ [80, 96, 182, 208, 487, 571, 672] rfl
theorem nP_start {s : State} {a : Array Value} (hts : ∀ w ∈ lw_tbl, w.before a s = true) : nP nFs nMs s := ⟨fun q hq => va_Nw.of rfl (hts _ (nF_in _ (List.mem_map.mpr ⟨q, hq, rfl⟩))), fun q hq => va_Nw.of rfl (hts _ (nM_in _ (List.mem_map.mpr ⟨q, hq, rfl⟩)))⟩
theorem ao_start {s : State} {a : Array Value} (hts : ∀ w ∈ lw_tbl, w.before a s = true) : va_AO "PlankNine$Now" s := va_AO.of (A := a) (hts (.arrayOver (.object "PlankNine$Now")) (List.mem_of_getElem? (i := 233) rfl))
theorem arr_start {s : State} {a : Array Value} (hts : ∀ w ∈ lw_tbl, w.before a s = true) : ∃ cy : Nat → ClassId, ∀ (k : Nat) (q : ClassId × FieldType), (tyA cy)[k]? = some q → ArrOfT s q.1 q.2 ∧ va_RA s q.1 q.2 := by
  obtain ⟨c0, k0, m0, h1, h2, h3⟩ := Cond.arrayClass_spec (hts (.arrayClass .byte) (List.mem_of_getElem? (i := 93) rfl))
  obtain ⟨c1, k1, m1, h4, h5, h6⟩ := Cond.arrayClass_spec (hts (.arrayClass .int) (List.mem_of_getElem? (i := 174) rfl))
  obtain ⟨c2, k2, m2, h7, h8, h9⟩ := Cond.arrayClass_spec (hts (.arrayClass .boolean) (List.mem_of_getElem? (i := 250) rfl))
  obtain ⟨comp, c3, k3, g1, g2, g3, g4, g5⟩ := Cond.arrayOver_spec (ao_start hts)
  refine ⟨fun k => if k = 0 then c0 else if k = 1 then c1 else if k = 2 then c2 else c3, fun k q hq => ?_⟩
  match k, hq with
  | 0, hq => cases hq; exact ⟨fun n z => ⟨fun _ h => (by cases h), k0, h2, m0, h3⟩, h1⟩
  | 1, hq => cases hq; exact ⟨fun n z => ⟨fun _ h => (by cases h), k1, h5, m1, h6⟩, h4⟩
  | 2, hq => cases hq; exact ⟨fun n z => ⟨fun _ h => (by cases h), k2, h8, m2, h9⟩, h7⟩
  | 3, hq => cases hq; exact ⟨fun n z => ⟨fun _ h => (by cases h), k3, g3, comp, g4⟩, ⟨k3, comp, g3, g4, g1, g5⟩⟩
  | k + 4, hq => simp [tyA] at hq
def sTm (i : Nat) : Term := Term.string "PlankNine$Reader" ([119, 125, 127, 129].getD i 0)
set_option maxRecDepth 20000 in
theorem str_start {s : State} {a : Array Value} (hgv : (Jvm.Cond.and given_1 narrow_1).before a s = true) : ∃ sk sv : Nat → Nat, vk_S 4 nLen nByt sk sv (fun q : Nat => s.heap.size ≤ q) s s.heap ∧ ∀ i : Nat, i < 4 → (sTm i).eval a s none [] s = some (.ref (sk i)) := by
  have hs := flat_of_before _ hgv
  refine vk_Sof (args := a) (tm := sTm) (by decide) ?_ ?_ ?_ ?_ ?_ ?_ (fun q h => Nat.not_le.mpr h)
  · intro i hi
    rcases (show i = 0 ∨ i = 1 ∨ i = 2 ∨ i = 3 by omega) with rfl | rfl | rfl | rfl
    all_goals exact hs _ (by decide +kernel)
  · intro i hi
    rcases (show i = 0 ∨ i = 1 ∨ i = 2 ∨ i = 3 by omega) with rfl | rfl | rfl | rfl
    all_goals exact hs _ (by decide +kernel)
  · intro i hi
    rcases (show i = 0 ∨ i = 1 ∨ i = 2 ∨ i = 3 by omega) with rfl | rfl | rfl | rfl
    all_goals exact hs _ (by decide +kernel)
  · intro i hi
    rcases (show i = 0 ∨ i = 1 ∨ i = 2 ∨ i = 3 by omega) with rfl | rfl | rfl | rfl
    all_goals exact hs _ (by decide +kernel)
  · intro i hi j hj
    rcases (show i = 0 ∨ i = 1 ∨ i = 2 ∨ i = 3 by omega) with rfl | rfl | rfl | rfl
    · have hj : j < 5 := hj
      rcases (show j = 0 ∨ j = 1 ∨ j = 2 ∨ j = 3 ∨ j = 4 by omega) with rfl | rfl | rfl | rfl | rfl
      all_goals exact hs _ (by decide +kernel)
    · have hj : j < 5 := hj
      rcases (show j = 0 ∨ j = 1 ∨ j = 2 ∨ j = 3 ∨ j = 4 by omega) with rfl | rfl | rfl | rfl | rfl
      all_goals exact hs _ (by decide +kernel)
    · have hj : j < 6 := hj
      rcases (show j = 0 ∨ j = 1 ∨ j = 2 ∨ j = 3 ∨ j = 4 ∨ j = 5 by omega) with rfl | rfl | rfl | rfl | rfl | rfl
      all_goals exact hs _ (by decide +kernel)
    · have hj : j < 6 := hj
      rcases (show j = 0 ∨ j = 1 ∨ j = 2 ∨ j = 3 ∨ j = 4 ∨ j = 5 by omega) with rfl | rfl | rfl | rfl | rfl | rfl
      all_goals exact hs _ (by decide +kernel)
  · intro i j hi hj hij
    rcases (show i = 0 ∨ i = 1 ∨ i = 2 ∨ i = 3 by omega) with rfl | rfl | rfl | rfl <;> rcases (show j = 0 ∨ j = 1 ∨ j = 2 ∨ j = 3 by omega) with rfl | rfl | rfl | rfl
    all_goals first | exact absurd rfl hij | exact Or.inl (hs _ (by decide +kernel)) | exact Or.inr (hs _ (by decide +kernel))
set_option maxRecDepth 20000 in
theorem xP_start {s : State} {a : Array Value} (hts : ∀ w ∈ lw_tbl, w.before a s = true) (hgv : (Jvm.Cond.and given_1 narrow_1).before a s = true) : ∃ sk sv : Nat → Nat, ∀ ad : Nat → Nat, (∀ i : Nat, i < 44 → s.heap.size ≤ ad i) → xP ad sk sv s := by
  obtain ⟨sk, sv, h1, h2⟩ := str_start hgv
  have hs := flat_of_before _ hgv
  have hA : ∀ q : Nat, q < s.heap.size → ¬ (fun q : Nat => s.heap.size ≤ q) q := fun q h => Nat.not_le.mpr h
  refine ⟨sk, sv, fun ad hup => ?_⟩
  have hn : ∀ q, aP ad q → (fun q : Nat => s.heap.size ≤ q) q := fun q ⟨k, e1, e2⟩ => by rw [e2]; exact hup k e1
  refine ⟨nP_start hts, h1.narrow hn, ?_, (va_Zof (args := a) (hts (.laysStatic "java/lang/String" "COMPACT_STRINGS" "Z") (List.mem_of_getElem? (i := 433) rfl)) (hts (.initialized "java/lang/String") (List.mem_of_getElem? (i := 65) rfl)) (va_eqt (hs (.eq (.static "java/lang/String" "COMPACT_STRINGS" "Z") (.int 1)) (by decide +kernel))) hA).narrow hn, (va_Zqof (args := a) (hts (.laysStatic "jdk/internal/util/Preconditions" "SIOOBE_FORMATTER" "Ljava/util/function/BiFunction;") (List.mem_of_getElem? (i := 449) rfl)) (hts (.initialized "jdk/internal/util/Preconditions") (List.mem_of_getElem? (i := 67) rfl)) (hs (.isRef (.static "jdk/internal/util/Preconditions" "SIOOBE_FORMATTER" "Ljava/util/function/BiFunction;")) (by decide +kernel)) hA).narrow hn⟩
  intro q hq
  have key : q = (119, "marsh", 0) ∨ q = (125, "plank", 1) ∨ q = (127, "person", 2) ∨ q = (129, "errand", 3) := by
    simpa [nSs] using hq
  rcases key with rfl | rfl | rfl | rfl
  · exact vk_R.of (A := a) (hts (.stringRef "PlankNine$Reader" 119 "marsh") (List.mem_of_getElem? (i := 419) rfl)) (h2 0 (by decide))
  · exact vk_R.of (A := a) (hts (.stringRef "PlankNine$Reader" 125 "plank") (List.mem_of_getElem? (i := 472) rfl)) (h2 1 (by decide))
  · exact vk_R.of (A := a) (hts (.stringRef "PlankNine$Reader" 127 "person") (List.mem_of_getElem? (i := 473) rfl)) (h2 2 (by decide))
  · exact vk_R.of (A := a) (hts (.stringRef "PlankNine$Reader" 129 "errand") (List.mem_of_getElem? (i := 474) rfl)) (h2 3 (by decide))
theorem apart_start {ad ad2 : Nat → Nat} {cy : Nat → ClassId} {z : Nat} {f g : mM} {t u : Int64} (h : va_D (fun q : Nat => z ≤ q) (wP ad cy f t ++ wR ad2 cy g u)) : jP ad ∧ jR ad2 ∧ (∀ i j : Nat, i < 44 → j < 19 → ad i ≠ ad2 j) ∧ (∀ i : Nat, i < 44 → z ≤ ad i) ∧ ∀ i : Nat, i < 19 → z ≤ ad2 i := by
  have k1 : ∀ i, i < 44 → ∃ x, (wP ad cy f t ++ wR ad2 cy g u)[i]? = some (ad i, x) := by
    intro i hi
    have hl : i < (wP ad cy f t).length := hi
    have h1 : ((wP ad cy f t).map Prod.fst)[i]? = some (ad i) := by
      rw [wP_fst, List.getElem?_map, List.getElem?_range hi]; rfl
    rw [List.getElem?_map] at h1
    rw [List.getElem?_append_left hl]
    cases hx : (wP ad cy f t)[i]? with
    | none => rw [hx] at h1; cases h1
    | some x => rw [hx] at h1; exact ⟨x.2, by rw [← Option.some.inj h1]⟩
  have k2 : ∀ i, i < 19 → ∃ x, (wP ad cy f t ++ wR ad2 cy g u)[44 + i]? = some (ad2 i, x) := by
    intro i hi
    have hl : (wP ad cy f t).length ≤ 44 + i := Nat.le_add_right 44 i
    have h1 : ((wR ad2 cy g u).map Prod.fst)[i]? = some (ad2 i) := by
      rw [wR_fst, List.getElem?_map, List.getElem?_range hi]; rfl
    rw [List.getElem?_map] at h1
    rw [List.getElem?_append_right hl, show 44 + i - (wP ad cy f t).length = i from Nat.add_sub_cancel_left 44 i]
    cases hx : (wR ad2 cy g u)[i]? with
    | none => rw [hx] at h1; cases h1
    | some x => rw [hx] at h1; exact ⟨x.2, by rw [← Option.some.inj h1]⟩
  refine ⟨fun i j hi hj e => ?_, fun i j hi hj e => ?_, fun i j hi hj e => ?_, fun i hi => ?_, fun i hi => ?_⟩
  · obtain ⟨x, hx⟩ := k1 i hi
    obtain ⟨y, hy⟩ := k1 j hj
    exact h.1 i j _ _ hx hy e
  · obtain ⟨x, hx⟩ := k2 i hi
    obtain ⟨y, hy⟩ := k2 j hj
    have := h.1 _ _ _ _ hx hy e
    omega
  · obtain ⟨x, hx⟩ := k1 i hi
    obtain ⟨y, hy⟩ := k2 j hj
    have := h.1 _ _ _ _ hx hy e
    omega
  · obtain ⟨x, hx⟩ := k1 i hi
    exact h.2 _ _ hx
  · obtain ⟨x, hx⟩ := k2 i hi
    exact h.2 _ _ hx
set_option maxHeartbeats 8000000 in
set_option maxRecDepth 100000 in
/-- the law from its entry -/
theorem whole_start {p : Program} {e : Env} {s : State} {m : MethodId} {below : List Frame} {meth : Method} {c : Code} (l : Launch) {b L : Nat} {xs : Nat → Int32} (hL : L ≤ 2560) (C0 : lw_At p s m meth c b L xs) : W p l e room_1 s m #[Value.ref b] below meth c s.heap [] 0 0 (lw_Z below #[Value.ref b] s) (entryFrame m ([Value.ref b] : List Value).toArray 4) := by
  obtain ⟨hx, hb, hr, hml, hown, hts0, hX, hbl, hlocks, hgv⟩ := id C0
  have hts : ∀ w ∈ wsL_law, w.before #[Value.ref b] s = true := fun w h => hts0 w (wsL_law_in w h)
  have hown : s.vm.findClass RL = some m.cls := hown
  have hA : ∀ q : Nat, s.heap.size ≤ q → (fun q : Nat => s.heap.size ≤ q) q := fun _ h => h
  obtain ⟨kc0, ki0, hKn0⟩ := u_known (C := RX0) (T := TX0) (N := 6) (n := 6) hts inlX0 (hts (.instantiable RX0 6) (List.mem_of_getElem? (i := 41) rfl))
  obtain ⟨kc1, ki1, hKn1⟩ := u_known (C := RX1) (T := TX1) (N := 3) (n := 3) hts inlX1 (hts (.instantiable RX1 3) (List.mem_of_getElem? (i := 49) rfl))
  obtain ⟨kc2, ki2, hKn2⟩ := u_known (C := RX2) (T := TX2) (N := 12) (n := 12) hts inlX2 (hts (.instantiable RX2 12) (List.mem_of_getElem? (i := 18) rfl))
  obtain ⟨kc3, ki3, hKn3⟩ := u_known (C := RX3) (T := TX3) (N := 4) (n := 4) hts inlX3 (hts (.instantiable RX3 4) (List.mem_of_getElem? (i := 26) rfl))
  obtain ⟨kc4, ki4, hKn4⟩ := u_known (C := RX4) (T := TX4) (N := 7) (n := 7) hts inlX4 (hts (.instantiable RX4 7) (List.mem_of_getElem? (i := 22) rfl))
  obtain ⟨kc5, ki5, hKn5⟩ := u_known (C := RX5) (T := TX5) (N := 3) (n := 3) hts inlX5 (hts (.instantiable RX5 3) (List.mem_of_getElem? (i := 37) rfl))
  obtain ⟨kc6, ki6, hKn6⟩ := u_known (C := RX6) (T := TX6) (N := 3) (n := 3) hts inlX6 (hts (.instantiable RX6 3) (List.mem_of_getElem? (i := 45) rfl))
  obtain ⟨kc7, ki7, hKn7⟩ := u_known (C := RX7) (T := TX7) (N := 2) (n := 2) hts inlX7 (hts (.instantiable RX7 2) (List.mem_of_getElem? (i := 14) rfl))
  obtain ⟨kc8, ki8, hKn8⟩ := u_known (C := RX8) (T := TX8) (N := 3) (n := 3) hts inlX8 (hts (.instantiable RX8 3) (List.mem_of_getElem? (i := 33) rfl))
  obtain ⟨kc9, ki9, hKn9⟩ := u_known (C := RX9) (T := TX9) (N := 11) (n := 11) hts inlX9 (hts (.instantiable RX9 11) (List.mem_of_getElem? (i := 1) rfl))
  obtain ⟨kc10, ki10, hKn10⟩ := u_known (C := RX10) (T := TX10) (N := 34) (n := 34) hts inlX10 (hts (.instantiable RX10 34) (List.mem_of_getElem? (i := 4) rfl))
  obtain ⟨dC, dI, hKc⟩ : ∃ (dC : Nat → ClassId) (dI : Nat → Nat → Nat), ∀ (k : Nat) (q : vw_C), vwCl[k]? = some q → u_Kn s q.1 q.2.1 q.2.2 (dC k) (dI k) := by
    refine ⟨fun k => if k = 0 then kc0 else if k = 1 then kc1 else if k = 2 then kc2 else if k = 3 then kc3 else if k = 4 then kc4 else if k = 5 then kc5 else if k = 6 then kc6 else if k = 7 then kc7 else if k = 8 then kc8 else if k = 9 then kc9 else kc10, fun k => if k = 0 then ki0 else if k = 1 then ki1 else if k = 2 then ki2 else if k = 3 then ki3 else if k = 4 then ki4 else if k = 5 then ki5 else if k = 6 then ki6 else if k = 7 then ki7 else if k = 8 then ki8 else if k = 9 then ki9 else ki10, ?_⟩
    intro k q hq
    match k, hq with
    | 0, hq => cases hq; exact hKn0
    | 1, hq => cases hq; exact hKn1
    | 2, hq => cases hq; exact hKn2
    | 3, hq => cases hq; exact hKn3
    | 4, hq => cases hq; exact hKn4
    | 5, hq => cases hq; exact hKn5
    | 6, hq => cases hq; exact hKn6
    | 7, hq => cases hq; exact hKn7
    | 8, hq => cases hq; exact hKn8
    | 9, hq => cases hq; exact hKn9
    | 10, hq => cases hq; exact hKn10
    | k + 11, hq => simp [vwCl] at hq
  obtain ⟨cy, hKa⟩ := arr_start hts0
  have hK : va_K (dC, dI) vwCl (tyA cy) s := ⟨hKc, hKa⟩
  have hX0 : xC s := ⟨nP_start hts0, ao_start hts0⟩
  obtain ⟨sk, sv, hxP⟩ := xP_start hts0 hgv
  have hS : va_S (fun q : Nat => s.heap.size ≤ q) s.heap s.heap [] := va_S.rf
  have hP : va_P (dC, dI) vwCl [] s.heap := fun k q h => by simp at h
  have hD : va_D (fun q : Nat => s.heap.size ≤ q) [] := ⟨fun i j p q h => by simp at h, fun k q h => by simp at h⟩
  have hl := lv_entry ([.ref b]) (n := 4) (Nat.le_of_ble_eq_true rfl)
  rw [lg_entry_eq]
  generalize (lg_sl ([.ref b]) ++ List.replicate (4 - (lg_sl ([.ref b])).length) Slot.unset).toArray = ls at hl ⊢
  have hl : lv_has ls 4 [(0, .ref b)] := hl
  refine va_new (ci := 9) (fs := [.null, .null, .null, .null, .null, .null, .null, .null, .null, .null, .null]) (C := RX9) (T := TX9) (N := 11) hx hb hts inlX9 tyX9 tyX9_ok hown (hts (.classLink RL 7 RX9) (List.mem_of_getElem? (i := 0) rfl)) (hts (.instantiable RX9 11) (List.mem_of_getElem? (i := 1) rfl)) (hts (.initialized RX9) (List.mem_of_getElem? (i := 2) rfl)) hK hP hD hS hA rfl (fun j hj => by rcases (show j = 0 ∨ j = 1 ∨ j = 2 ∨ j = 3 ∨ j = 4 ∨ j = 5 ∨ j = 6 ∨ j = 7 ∨ j = 8 ∨ j = 9 ∨ j = 10 by omega) with rfl | rfl | rfl | rfl | rfl | rfl | rfl | rfl | rfl | rfl | rfl <;> rfl) (Nat.le_of_ble_eq_true rfl) (Nat.le_of_ble_eq_true rfl) dL_law_0 (fun a0 H hP hD hS => ?_)
  have hP : va_P (dC, dI) vwCl [(a0, .inr (9, [.null, .null, .null, .null, .null, .null, .null, .null, .null, .null, .null]))] H := hP
  have hD : va_D (fun q : Nat => s.heap.size ≤ q) [(a0, .inr (9, [.null, .null, .null, .null, .null, .null, .null, .null, .null, .null, .null]))] := hD
  refine lv_dup hx hb dL_law_3 rfl ?_
  have hPc := hP.sub (ws' := [(a0, .inr (9, [.null, .null, .null, .null, .null, .null, .null, .null, .null, .null, .null]))]) [0] rfl
  have hDc := hD.sub (ws' := [(a0, .inr (9, [.null, .null, .null, .null, .null, .null, .null, .null, .null, .null, .null]))]) [0] (by decide) rfl
  have hFc := va_free (wc := [(a0, .inr (9, [.null, .null, .null, .null, .null, .null, .null, .null, .null, .null, .null]))]) hD hS hA [0] rfl
  refine va_callv (va_runI (As := []) (rest := [.ref a0]) ⟨hx, hb, hml, hown, hts⟩ (c_X9_init l a0 H.size) (cwI 0 hts gL_law_X9_init rfl rfl rfl (hts (.initialized RX9) (List.mem_of_getElem? (i := 2) rfl)) (hts (.methodLink RL 9 yX9_init) (List.mem_of_getElem? (i := 7) rfl)) (hts (.instanceMethod yX9_init) (List.mem_of_getElem? (i := 8) rfl)) rfl (by decide +kernel) ⟨Nat.le_of_ble_eq_true rfl, Nat.le_of_ble_eq_true rfl⟩) ⟨preC_blind, preC_go hK hX0 hPc hDc _⟩ rfl rfl hl.1 rfl (lv_room (Nat.le_of_ble_eq_true rfl)) dL_law_4 ⟨Nat.le_of_ble_eq_true rfl, Nat.le_of_ble_eq_true rfl⟩) hS (fun q _ h => hFc q h) hFc (fun u t H1 locs ht hvm hw hB hz1 hk1 hS => ?_)
  obtain ⟨aq1, aq2, aq3, aq4, aq5, aq6, aq7, aq8, aq9, aq10, aq11, aq12, aq13, aq14, aq15, aq16, aq17, aq18, aq19, aq20, aq21, aq22, aq23, aq24, aq25, aq26, aq27, aq29, aq30, aq31, aq32, aq33, aq34, aq35, aq36, aq37, aq39, aq40, aq41, aq42, aq43, aq44, aq45, hP1, hD1⟩ := hB
  rw [ht] at hP1
  obtain ⟨hP, hD⟩ := va_join (wr := []) (w1 := [(a0, .inr (9, [.ref aq1, .ref aq3, .ref aq12, .ref aq23, .ref aq27, .ref aq37, .ref aq39, .ref aq41, .ref aq42, .ref aq43, .ref aq45])), (aq1, .inr (7, [.ref aq2, .int 0])), (aq2, .inl (cy 0, 300, .inl (fun _ => 0))), (aq3, .inr (2, [.int 4, .int 0, .int 0, .int 0, .ref aq4, .ref aq5, .ref aq6, .ref aq7, .ref aq8, .ref aq9, .ref aq10, .ref aq11])), (aq4, .inl (cy 1, 9, .inl (fun _ => 0))), (aq5, .inl (cy 1, 9, .inl (fun _ => 0))), (aq6, .inl (cy 1, 9, .inl (fun _ => 0))), (aq7, .inl (cy 1, 4, .inl (fun _ => 0))), (aq8, .inl (cy 1, 4, .inl (fun _ => 0))), (aq9, .inl (cy 1, 3, .inl (fun _ => 0))), (aq10, .inl (cy 1, 3, .inl (fun _ => 0))), (aq11, .inl (cy 1, 3, .inl (fun _ => 0))), (aq12, .inr (4, [.ref aq1, .ref aq13, .int 1, .int 0, .int 0, .int 0, .ref aq22])), (aq13, .inr (2, [.int 4, .int 0, .int 0, .int 0, .ref aq14, .ref aq15, .ref aq16, .ref aq17, .ref aq18, .ref aq19, .ref aq20, .ref aq21])), (aq14, .inl (cy 1, 9, .inl (fun _ => 0))), (aq15, .inl (cy 1, 9, .inl (fun _ => 0))), (aq16, .inl (cy 1, 9, .inl (fun _ => 0))), (aq17, .inl (cy 1, 4, .inl (fun _ => 0))), (aq18, .inl (cy 1, 4, .inl (fun _ => 0))), (aq19, .inl (cy 1, 3, .inl (fun _ => 0))), (aq20, .inl (cy 1, 3, .inl (fun _ => 0))), (aq21, .inl (cy 1, 3, .inl (fun _ => 0))), (aq22, .inl (cy 1, 3, .inl (fun _ => 0))), (aq23, .inr (3, [.ref aq24, .ref aq25, .ref aq26, .int 0])), (aq24, .inl (cy 1, 9, .inl (fun _ => 0))), (aq25, .inl (cy 1, 20, .inl (fun _ => 0))), (aq26, .inl (cy 1, 20, .inl (fun _ => 0))), (aq27, .inl (cy 3, 2, .inr (.inr (.inr (.inr (va_up (va_up (fun _ => none) 0 (some aq29)) 1 (some aq33))))))), (aq29, .inr (3, [.ref aq30, .ref aq31, .ref aq32, .int 0])), (aq30, .inl (cy 1, 9, .inl (fun _ => 0))), (aq31, .inl (cy 1, 20, .inl (fun _ => 0))), (aq32, .inl (cy 1, 20, .inl (fun _ => 0))), (aq33, .inr (3, [.ref aq34, .ref aq35, .ref aq36, .int 0])), (aq34, .inl (cy 1, 9, .inl (fun _ => 0))), (aq35, .inl (cy 1, 20, .inl (fun _ => 0))), (aq36, .inl (cy 1, 20, .inl (fun _ => 0))), (aq37, .inl (cy 2, 2, .inl (fun _ => 0))), (aq39, .inr (8, [.ref aq3, .ref aq23, .ref aq40])), (aq40, .inl (cy 1, 5, .inl (fun _ => 0))), (aq41, .inr (5, [.ref aq3, .ref aq23, .int (-9)])), (aq42, .inr (0, [.ref aq3, .ref aq23, .int 0, .int 0, .int 0, .int 0])), (aq43, .inr (6, [.ref aq3, .ref aq23, .ref aq44])), (aq44, .inl (cy 1, 10, .inl (fun _ => 0))), (aq45, .inr (1, [.ref aq3, .ref aq23, .long 0]))]) hP hD [0] [] rfl rfl (by decide) (by decide) hk1 hFc hP1 hD1
  generalize H1 = H at hP hS ⊢
  have hP : va_P (dC, dI) vwCl [(a0, .inr (9, [.ref aq1, .ref aq3, .ref aq12, .ref aq23, .ref aq27, .ref aq37, .ref aq39, .ref aq41, .ref aq42, .ref aq43, .ref aq45])), (aq1, .inr (7, [.ref aq2, .int 0])), (aq2, .inl (cy 0, 300, .inl (fun _ => 0))), (aq3, .inr (2, [.int 4, .int 0, .int 0, .int 0, .ref aq4, .ref aq5, .ref aq6, .ref aq7, .ref aq8, .ref aq9, .ref aq10, .ref aq11])), (aq4, .inl (cy 1, 9, .inl (fun _ => 0))), (aq5, .inl (cy 1, 9, .inl (fun _ => 0))), (aq6, .inl (cy 1, 9, .inl (fun _ => 0))), (aq7, .inl (cy 1, 4, .inl (fun _ => 0))), (aq8, .inl (cy 1, 4, .inl (fun _ => 0))), (aq9, .inl (cy 1, 3, .inl (fun _ => 0))), (aq10, .inl (cy 1, 3, .inl (fun _ => 0))), (aq11, .inl (cy 1, 3, .inl (fun _ => 0))), (aq12, .inr (4, [.ref aq1, .ref aq13, .int 1, .int 0, .int 0, .int 0, .ref aq22])), (aq13, .inr (2, [.int 4, .int 0, .int 0, .int 0, .ref aq14, .ref aq15, .ref aq16, .ref aq17, .ref aq18, .ref aq19, .ref aq20, .ref aq21])), (aq14, .inl (cy 1, 9, .inl (fun _ => 0))), (aq15, .inl (cy 1, 9, .inl (fun _ => 0))), (aq16, .inl (cy 1, 9, .inl (fun _ => 0))), (aq17, .inl (cy 1, 4, .inl (fun _ => 0))), (aq18, .inl (cy 1, 4, .inl (fun _ => 0))), (aq19, .inl (cy 1, 3, .inl (fun _ => 0))), (aq20, .inl (cy 1, 3, .inl (fun _ => 0))), (aq21, .inl (cy 1, 3, .inl (fun _ => 0))), (aq22, .inl (cy 1, 3, .inl (fun _ => 0))), (aq23, .inr (3, [.ref aq24, .ref aq25, .ref aq26, .int 0])), (aq24, .inl (cy 1, 9, .inl (fun _ => 0))), (aq25, .inl (cy 1, 20, .inl (fun _ => 0))), (aq26, .inl (cy 1, 20, .inl (fun _ => 0))), (aq27, .inl (cy 3, 2, .inr (.inr (.inr (.inr (va_up (va_up (fun _ => none) 0 (some aq29)) 1 (some aq33))))))), (aq29, .inr (3, [.ref aq30, .ref aq31, .ref aq32, .int 0])), (aq30, .inl (cy 1, 9, .inl (fun _ => 0))), (aq31, .inl (cy 1, 20, .inl (fun _ => 0))), (aq32, .inl (cy 1, 20, .inl (fun _ => 0))), (aq33, .inr (3, [.ref aq34, .ref aq35, .ref aq36, .int 0])), (aq34, .inl (cy 1, 9, .inl (fun _ => 0))), (aq35, .inl (cy 1, 20, .inl (fun _ => 0))), (aq36, .inl (cy 1, 20, .inl (fun _ => 0))), (aq37, .inl (cy 2, 2, .inl (fun _ => 0))), (aq39, .inr (8, [.ref aq3, .ref aq23, .ref aq40])), (aq40, .inl (cy 1, 5, .inl (fun _ => 0))), (aq41, .inr (5, [.ref aq3, .ref aq23, .int (-9)])), (aq42, .inr (0, [.ref aq3, .ref aq23, .int 0, .int 0, .int 0, .int 0])), (aq43, .inr (6, [.ref aq3, .ref aq23, .ref aq44])), (aq44, .inl (cy 1, 10, .inl (fun _ => 0))), (aq45, .inr (1, [.ref aq3, .ref aq23, .long 0]))] H := hP
  have hD : va_D (fun q : Nat => s.heap.size ≤ q) [(a0, .inr (9, [.ref aq1, .ref aq3, .ref aq12, .ref aq23, .ref aq27, .ref aq37, .ref aq39, .ref aq41, .ref aq42, .ref aq43, .ref aq45])), (aq1, .inr (7, [.ref aq2, .int 0])), (aq2, .inl (cy 0, 300, .inl (fun _ => 0))), (aq3, .inr (2, [.int 4, .int 0, .int 0, .int 0, .ref aq4, .ref aq5, .ref aq6, .ref aq7, .ref aq8, .ref aq9, .ref aq10, .ref aq11])), (aq4, .inl (cy 1, 9, .inl (fun _ => 0))), (aq5, .inl (cy 1, 9, .inl (fun _ => 0))), (aq6, .inl (cy 1, 9, .inl (fun _ => 0))), (aq7, .inl (cy 1, 4, .inl (fun _ => 0))), (aq8, .inl (cy 1, 4, .inl (fun _ => 0))), (aq9, .inl (cy 1, 3, .inl (fun _ => 0))), (aq10, .inl (cy 1, 3, .inl (fun _ => 0))), (aq11, .inl (cy 1, 3, .inl (fun _ => 0))), (aq12, .inr (4, [.ref aq1, .ref aq13, .int 1, .int 0, .int 0, .int 0, .ref aq22])), (aq13, .inr (2, [.int 4, .int 0, .int 0, .int 0, .ref aq14, .ref aq15, .ref aq16, .ref aq17, .ref aq18, .ref aq19, .ref aq20, .ref aq21])), (aq14, .inl (cy 1, 9, .inl (fun _ => 0))), (aq15, .inl (cy 1, 9, .inl (fun _ => 0))), (aq16, .inl (cy 1, 9, .inl (fun _ => 0))), (aq17, .inl (cy 1, 4, .inl (fun _ => 0))), (aq18, .inl (cy 1, 4, .inl (fun _ => 0))), (aq19, .inl (cy 1, 3, .inl (fun _ => 0))), (aq20, .inl (cy 1, 3, .inl (fun _ => 0))), (aq21, .inl (cy 1, 3, .inl (fun _ => 0))), (aq22, .inl (cy 1, 3, .inl (fun _ => 0))), (aq23, .inr (3, [.ref aq24, .ref aq25, .ref aq26, .int 0])), (aq24, .inl (cy 1, 9, .inl (fun _ => 0))), (aq25, .inl (cy 1, 20, .inl (fun _ => 0))), (aq26, .inl (cy 1, 20, .inl (fun _ => 0))), (aq27, .inl (cy 3, 2, .inr (.inr (.inr (.inr (va_up (va_up (fun _ => none) 0 (some aq29)) 1 (some aq33))))))), (aq29, .inr (3, [.ref aq30, .ref aq31, .ref aq32, .int 0])), (aq30, .inl (cy 1, 9, .inl (fun _ => 0))), (aq31, .inl (cy 1, 20, .inl (fun _ => 0))), (aq32, .inl (cy 1, 20, .inl (fun _ => 0))), (aq33, .inr (3, [.ref aq34, .ref aq35, .ref aq36, .int 0])), (aq34, .inl (cy 1, 9, .inl (fun _ => 0))), (aq35, .inl (cy 1, 20, .inl (fun _ => 0))), (aq36, .inl (cy 1, 20, .inl (fun _ => 0))), (aq37, .inl (cy 2, 2, .inl (fun _ => 0))), (aq39, .inr (8, [.ref aq3, .ref aq23, .ref aq40])), (aq40, .inl (cy 1, 5, .inl (fun _ => 0))), (aq41, .inr (5, [.ref aq3, .ref aq23, .int (-9)])), (aq42, .inr (0, [.ref aq3, .ref aq23, .int 0, .int 0, .int 0, .int 0])), (aq43, .inr (6, [.ref aq3, .ref aq23, .ref aq44])), (aq44, .inl (cy 1, 10, .inl (fun _ => 0))), (aq45, .inr (1, [.ref aq3, .ref aq23, .long 0]))] := hD
  refine lv_astore_n (lv' := [(1, .ref a0), (0, .ref b)]) hx hb dL_law_7 rfl hl (by decide) rfl (fun ls hl => ?_)
  refine va_new (ci := 10) (fs := [.int 0, .long 0, .null, .int 0, .int 0, .int 0, .int 0, .int 0, .int 0, .null, .null, .null, .null, .null, .null, .int 0, .int 0, .int 0, .int 0, .int 0, .int 0, .int 0, .int 0, .null, .null, .null, .null, .null, .null, .null, .null, .null, .null, .null]) (C := RX10) (T := TX10) (N := 34) hx hb hts inlX10 tyX10 tyX10_ok hown (hts (.classLink RL 10 RX10) (List.mem_of_getElem? (i := 3) rfl)) (hts (.instantiable RX10 34) (List.mem_of_getElem? (i := 4) rfl)) (hts (.initialized RX10) (List.mem_of_getElem? (i := 5) rfl)) hK hP hD hS hA rfl (fun j hj => by rcases (show j = 0 ∨ j = 1 ∨ j = 2 ∨ j = 3 ∨ j = 4 ∨ j = 5 ∨ j = 6 ∨ j = 7 ∨ j = 8 ∨ j = 9 ∨ j = 10 ∨ j = 11 ∨ j = 12 ∨ j = 13 ∨ j = 14 ∨ j = 15 ∨ j = 16 ∨ j = 17 ∨ j = 18 ∨ j = 19 ∨ j = 20 ∨ j = 21 ∨ j = 22 ∨ j = 23 ∨ j = 24 ∨ j = 25 ∨ j = 26 ∨ j = 27 ∨ j = 28 ∨ j = 29 ∨ j = 30 ∨ j = 31 ∨ j = 32 ∨ j = 33 by omega) with rfl | rfl | rfl | rfl | rfl | rfl | rfl | rfl | rfl | rfl | rfl | rfl | rfl | rfl | rfl | rfl | rfl | rfl | rfl | rfl | rfl | rfl | rfl | rfl | rfl | rfl | rfl | rfl | rfl | rfl | rfl | rfl | rfl | rfl <;> rfl) (Nat.le_of_ble_eq_true rfl) (Nat.le_of_ble_eq_true rfl) dL_law_8 (fun b0 H hP hD hS => ?_)
  have hP : va_P (dC, dI) vwCl [(a0, .inr (9, [.ref aq1, .ref aq3, .ref aq12, .ref aq23, .ref aq27, .ref aq37, .ref aq39, .ref aq41, .ref aq42, .ref aq43, .ref aq45])), (aq1, .inr (7, [.ref aq2, .int 0])), (aq2, .inl (cy 0, 300, .inl (fun _ => 0))), (aq3, .inr (2, [.int 4, .int 0, .int 0, .int 0, .ref aq4, .ref aq5, .ref aq6, .ref aq7, .ref aq8, .ref aq9, .ref aq10, .ref aq11])), (aq4, .inl (cy 1, 9, .inl (fun _ => 0))), (aq5, .inl (cy 1, 9, .inl (fun _ => 0))), (aq6, .inl (cy 1, 9, .inl (fun _ => 0))), (aq7, .inl (cy 1, 4, .inl (fun _ => 0))), (aq8, .inl (cy 1, 4, .inl (fun _ => 0))), (aq9, .inl (cy 1, 3, .inl (fun _ => 0))), (aq10, .inl (cy 1, 3, .inl (fun _ => 0))), (aq11, .inl (cy 1, 3, .inl (fun _ => 0))), (aq12, .inr (4, [.ref aq1, .ref aq13, .int 1, .int 0, .int 0, .int 0, .ref aq22])), (aq13, .inr (2, [.int 4, .int 0, .int 0, .int 0, .ref aq14, .ref aq15, .ref aq16, .ref aq17, .ref aq18, .ref aq19, .ref aq20, .ref aq21])), (aq14, .inl (cy 1, 9, .inl (fun _ => 0))), (aq15, .inl (cy 1, 9, .inl (fun _ => 0))), (aq16, .inl (cy 1, 9, .inl (fun _ => 0))), (aq17, .inl (cy 1, 4, .inl (fun _ => 0))), (aq18, .inl (cy 1, 4, .inl (fun _ => 0))), (aq19, .inl (cy 1, 3, .inl (fun _ => 0))), (aq20, .inl (cy 1, 3, .inl (fun _ => 0))), (aq21, .inl (cy 1, 3, .inl (fun _ => 0))), (aq22, .inl (cy 1, 3, .inl (fun _ => 0))), (aq23, .inr (3, [.ref aq24, .ref aq25, .ref aq26, .int 0])), (aq24, .inl (cy 1, 9, .inl (fun _ => 0))), (aq25, .inl (cy 1, 20, .inl (fun _ => 0))), (aq26, .inl (cy 1, 20, .inl (fun _ => 0))), (aq27, .inl (cy 3, 2, .inr (.inr (.inr (.inr (va_up (va_up (fun _ => none) 0 (some aq29)) 1 (some aq33))))))), (aq29, .inr (3, [.ref aq30, .ref aq31, .ref aq32, .int 0])), (aq30, .inl (cy 1, 9, .inl (fun _ => 0))), (aq31, .inl (cy 1, 20, .inl (fun _ => 0))), (aq32, .inl (cy 1, 20, .inl (fun _ => 0))), (aq33, .inr (3, [.ref aq34, .ref aq35, .ref aq36, .int 0])), (aq34, .inl (cy 1, 9, .inl (fun _ => 0))), (aq35, .inl (cy 1, 20, .inl (fun _ => 0))), (aq36, .inl (cy 1, 20, .inl (fun _ => 0))), (aq37, .inl (cy 2, 2, .inl (fun _ => 0))), (aq39, .inr (8, [.ref aq3, .ref aq23, .ref aq40])), (aq40, .inl (cy 1, 5, .inl (fun _ => 0))), (aq41, .inr (5, [.ref aq3, .ref aq23, .int (-9)])), (aq42, .inr (0, [.ref aq3, .ref aq23, .int 0, .int 0, .int 0, .int 0])), (aq43, .inr (6, [.ref aq3, .ref aq23, .ref aq44])), (aq44, .inl (cy 1, 10, .inl (fun _ => 0))), (aq45, .inr (1, [.ref aq3, .ref aq23, .long 0])), (b0, .inr (10, [.int 0, .long 0, .null, .int 0, .int 0, .int 0, .int 0, .int 0, .int 0, .null, .null, .null, .null, .null, .null, .int 0, .int 0, .int 0, .int 0, .int 0, .int 0, .int 0, .int 0, .null, .null, .null, .null, .null, .null, .null, .null, .null, .null, .null]))] H := hP
  have hD : va_D (fun q : Nat => s.heap.size ≤ q) [(a0, .inr (9, [.ref aq1, .ref aq3, .ref aq12, .ref aq23, .ref aq27, .ref aq37, .ref aq39, .ref aq41, .ref aq42, .ref aq43, .ref aq45])), (aq1, .inr (7, [.ref aq2, .int 0])), (aq2, .inl (cy 0, 300, .inl (fun _ => 0))), (aq3, .inr (2, [.int 4, .int 0, .int 0, .int 0, .ref aq4, .ref aq5, .ref aq6, .ref aq7, .ref aq8, .ref aq9, .ref aq10, .ref aq11])), (aq4, .inl (cy 1, 9, .inl (fun _ => 0))), (aq5, .inl (cy 1, 9, .inl (fun _ => 0))), (aq6, .inl (cy 1, 9, .inl (fun _ => 0))), (aq7, .inl (cy 1, 4, .inl (fun _ => 0))), (aq8, .inl (cy 1, 4, .inl (fun _ => 0))), (aq9, .inl (cy 1, 3, .inl (fun _ => 0))), (aq10, .inl (cy 1, 3, .inl (fun _ => 0))), (aq11, .inl (cy 1, 3, .inl (fun _ => 0))), (aq12, .inr (4, [.ref aq1, .ref aq13, .int 1, .int 0, .int 0, .int 0, .ref aq22])), (aq13, .inr (2, [.int 4, .int 0, .int 0, .int 0, .ref aq14, .ref aq15, .ref aq16, .ref aq17, .ref aq18, .ref aq19, .ref aq20, .ref aq21])), (aq14, .inl (cy 1, 9, .inl (fun _ => 0))), (aq15, .inl (cy 1, 9, .inl (fun _ => 0))), (aq16, .inl (cy 1, 9, .inl (fun _ => 0))), (aq17, .inl (cy 1, 4, .inl (fun _ => 0))), (aq18, .inl (cy 1, 4, .inl (fun _ => 0))), (aq19, .inl (cy 1, 3, .inl (fun _ => 0))), (aq20, .inl (cy 1, 3, .inl (fun _ => 0))), (aq21, .inl (cy 1, 3, .inl (fun _ => 0))), (aq22, .inl (cy 1, 3, .inl (fun _ => 0))), (aq23, .inr (3, [.ref aq24, .ref aq25, .ref aq26, .int 0])), (aq24, .inl (cy 1, 9, .inl (fun _ => 0))), (aq25, .inl (cy 1, 20, .inl (fun _ => 0))), (aq26, .inl (cy 1, 20, .inl (fun _ => 0))), (aq27, .inl (cy 3, 2, .inr (.inr (.inr (.inr (va_up (va_up (fun _ => none) 0 (some aq29)) 1 (some aq33))))))), (aq29, .inr (3, [.ref aq30, .ref aq31, .ref aq32, .int 0])), (aq30, .inl (cy 1, 9, .inl (fun _ => 0))), (aq31, .inl (cy 1, 20, .inl (fun _ => 0))), (aq32, .inl (cy 1, 20, .inl (fun _ => 0))), (aq33, .inr (3, [.ref aq34, .ref aq35, .ref aq36, .int 0])), (aq34, .inl (cy 1, 9, .inl (fun _ => 0))), (aq35, .inl (cy 1, 20, .inl (fun _ => 0))), (aq36, .inl (cy 1, 20, .inl (fun _ => 0))), (aq37, .inl (cy 2, 2, .inl (fun _ => 0))), (aq39, .inr (8, [.ref aq3, .ref aq23, .ref aq40])), (aq40, .inl (cy 1, 5, .inl (fun _ => 0))), (aq41, .inr (5, [.ref aq3, .ref aq23, .int (-9)])), (aq42, .inr (0, [.ref aq3, .ref aq23, .int 0, .int 0, .int 0, .int 0])), (aq43, .inr (6, [.ref aq3, .ref aq23, .ref aq44])), (aq44, .inl (cy 1, 10, .inl (fun _ => 0))), (aq45, .inr (1, [.ref aq3, .ref aq23, .long 0])), (b0, .inr (10, [.int 0, .long 0, .null, .int 0, .int 0, .int 0, .int 0, .int 0, .int 0, .null, .null, .null, .null, .null, .null, .int 0, .int 0, .int 0, .int 0, .int 0, .int 0, .int 0, .int 0, .null, .null, .null, .null, .null, .null, .null, .null, .null, .null, .null]))] := hD
  refine lv_dup hx hb dL_law_11 rfl ?_
  have hPc := hP.sub (ws' := [(b0, .inr (10, [.int 0, .long 0, .null, .int 0, .int 0, .int 0, .int 0, .int 0, .int 0, .null, .null, .null, .null, .null, .null, .int 0, .int 0, .int 0, .int 0, .int 0, .int 0, .int 0, .int 0, .null, .null, .null, .null, .null, .null, .null, .null, .null, .null, .null]))]) [44] rfl
  have hDc := hD.sub (ws' := [(b0, .inr (10, [.int 0, .long 0, .null, .int 0, .int 0, .int 0, .int 0, .int 0, .int 0, .null, .null, .null, .null, .null, .null, .int 0, .int 0, .int 0, .int 0, .int 0, .int 0, .int 0, .int 0, .null, .null, .null, .null, .null, .null, .null, .null, .null, .null, .null]))]) [44] (by decide) rfl
  have hFc := va_free (wc := [(b0, .inr (10, [.int 0, .long 0, .null, .int 0, .int 0, .int 0, .int 0, .int 0, .int 0, .null, .null, .null, .null, .null, .null, .int 0, .int 0, .int 0, .int 0, .int 0, .int 0, .int 0, .int 0, .null, .null, .null, .null, .null, .null, .null, .null, .null, .null, .null]))]) hD hS hA [44] rfl
  refine va_callv (va_runI (As := []) (rest := [.ref b0]) ⟨hx, hb, hml, hown, hts⟩ (c_X10_init l b0 H.size) (cwI 0 hts gL_law_X10_init rfl rfl rfl (hts (.initialized RX10) (List.mem_of_getElem? (i := 5) rfl)) (hts (.methodLink RL 12 yX10_init) (List.mem_of_getElem? (i := 131) rfl)) (hts (.instanceMethod yX10_init) (List.mem_of_getElem? (i := 132) rfl)) rfl (by decide +kernel) ⟨Nat.le_of_ble_eq_true rfl, Nat.le_of_ble_eq_true rfl⟩) ⟨preC_blind, preC_go hK hX0 hPc hDc _⟩ rfl rfl hl.1 rfl (lv_room (Nat.le_of_ble_eq_true rfl)) dL_law_12 ⟨Nat.le_of_ble_eq_true rfl, Nat.le_of_ble_eq_true rfl⟩) hS (fun q _ h => hFc q h) hFc (fun u t H1 locs ht hvm hw hB hz1 hk1 hS => ?_)
  obtain ⟨bq1, bq3, bq5, bq7, bq9, bq11, bq13, bq15, bq17, bq19, bq21, bq23, bq25, bq27, bq29, bq31, bq33, bq35, hP1, hD1⟩ := hB
  rw [ht] at hP1
  obtain ⟨hP, hD⟩ := va_join (wr := [(a0, .inr (9, [.ref aq1, .ref aq3, .ref aq12, .ref aq23, .ref aq27, .ref aq37, .ref aq39, .ref aq41, .ref aq42, .ref aq43, .ref aq45])), (aq1, .inr (7, [.ref aq2, .int 0])), (aq2, .inl (cy 0, 300, .inl (fun _ => 0))), (aq3, .inr (2, [.int 4, .int 0, .int 0, .int 0, .ref aq4, .ref aq5, .ref aq6, .ref aq7, .ref aq8, .ref aq9, .ref aq10, .ref aq11])), (aq4, .inl (cy 1, 9, .inl (fun _ => 0))), (aq5, .inl (cy 1, 9, .inl (fun _ => 0))), (aq6, .inl (cy 1, 9, .inl (fun _ => 0))), (aq7, .inl (cy 1, 4, .inl (fun _ => 0))), (aq8, .inl (cy 1, 4, .inl (fun _ => 0))), (aq9, .inl (cy 1, 3, .inl (fun _ => 0))), (aq10, .inl (cy 1, 3, .inl (fun _ => 0))), (aq11, .inl (cy 1, 3, .inl (fun _ => 0))), (aq12, .inr (4, [.ref aq1, .ref aq13, .int 1, .int 0, .int 0, .int 0, .ref aq22])), (aq13, .inr (2, [.int 4, .int 0, .int 0, .int 0, .ref aq14, .ref aq15, .ref aq16, .ref aq17, .ref aq18, .ref aq19, .ref aq20, .ref aq21])), (aq14, .inl (cy 1, 9, .inl (fun _ => 0))), (aq15, .inl (cy 1, 9, .inl (fun _ => 0))), (aq16, .inl (cy 1, 9, .inl (fun _ => 0))), (aq17, .inl (cy 1, 4, .inl (fun _ => 0))), (aq18, .inl (cy 1, 4, .inl (fun _ => 0))), (aq19, .inl (cy 1, 3, .inl (fun _ => 0))), (aq20, .inl (cy 1, 3, .inl (fun _ => 0))), (aq21, .inl (cy 1, 3, .inl (fun _ => 0))), (aq22, .inl (cy 1, 3, .inl (fun _ => 0))), (aq23, .inr (3, [.ref aq24, .ref aq25, .ref aq26, .int 0])), (aq24, .inl (cy 1, 9, .inl (fun _ => 0))), (aq25, .inl (cy 1, 20, .inl (fun _ => 0))), (aq26, .inl (cy 1, 20, .inl (fun _ => 0))), (aq27, .inl (cy 3, 2, .inr (.inr (.inr (.inr (va_up (va_up (fun _ => none) 0 (some aq29)) 1 (some aq33))))))), (aq29, .inr (3, [.ref aq30, .ref aq31, .ref aq32, .int 0])), (aq30, .inl (cy 1, 9, .inl (fun _ => 0))), (aq31, .inl (cy 1, 20, .inl (fun _ => 0))), (aq32, .inl (cy 1, 20, .inl (fun _ => 0))), (aq33, .inr (3, [.ref aq34, .ref aq35, .ref aq36, .int 0])), (aq34, .inl (cy 1, 9, .inl (fun _ => 0))), (aq35, .inl (cy 1, 20, .inl (fun _ => 0))), (aq36, .inl (cy 1, 20, .inl (fun _ => 0))), (aq37, .inl (cy 2, 2, .inl (fun _ => 0))), (aq39, .inr (8, [.ref aq3, .ref aq23, .ref aq40])), (aq40, .inl (cy 1, 5, .inl (fun _ => 0))), (aq41, .inr (5, [.ref aq3, .ref aq23, .int (-9)])), (aq42, .inr (0, [.ref aq3, .ref aq23, .int 0, .int 0, .int 0, .int 0])), (aq43, .inr (6, [.ref aq3, .ref aq23, .ref aq44])), (aq44, .inl (cy 1, 10, .inl (fun _ => 0))), (aq45, .inr (1, [.ref aq3, .ref aq23, .long 0]))]) (w1 := [(b0, .inr (10, [.int 0, .long 0, .ref bq1, .int 0, .int 0, .int 0, .int 0, .int 0, .int 0, .ref bq3, .ref bq5, .ref bq7, .ref bq9, .ref bq11, .ref bq13, .int 4, .int 0, .int 0, .int 0, .int 0, .int 0, .int 0, .int 0, .ref bq15, .ref bq17, .ref bq19, .ref bq21, .ref bq23, .ref bq25, .ref bq27, .ref bq29, .ref bq31, .ref bq33, .ref bq35])), (bq1, .inl (cy 1, 300, .inl (fun _ => 0))), (bq3, .inl (cy 1, 18, .inl (fun _ => 0))), (bq5, .inl (cy 1, 18, .inl (fun _ => 0))), (bq7, .inl (cy 1, 18, .inl (fun _ => 0))), (bq9, .inl (cy 1, 8, .inl (fun _ => 0))), (bq11, .inl (cy 1, 8, .inl (fun _ => 0))), (bq13, .inl (cy 1, 18, .inl (fun _ => 0))), (bq15, .inl (cy 1, 50, .inl (fun _ => 0))), (bq17, .inl (cy 1, 100, .inl (fun _ => 0))), (bq19, .inl (cy 2, 2, .inl (fun _ => 0))), (bq21, .inl (cy 1, 6, .inl (fun _ => 0))), (bq23, .inl (cy 1, 7, .inl (fun _ => 0))), (bq25, .inl (cy 1, 6, .inl (fun _ => 0))), (bq27, .inl (cy 1, 3000, .inl (fun _ => 0))), (bq29, .inl (cy 1, 3000, .inl (fun _ => 0))), (bq31, .inl (cy 1, 3, .inl (fun _ => 0))), (bq33, .inl (cy 1, 9, .inl (fun _ => 0))), (bq35, .inl (cy 1, 10, .inl (fun _ => 0)))]) hP hD [44] [0, 1, 2, 3, 4, 5, 6, 7, 8, 9, 10, 11, 12, 13, 14, 15, 16, 17, 18, 19, 20, 21, 22, 23, 24, 25, 26, 27, 28, 29, 30, 31, 32, 33, 34, 35, 36, 37, 38, 39, 40, 41, 42, 43] rfl rfl (by decide) (by decide) hk1 hFc hP1 hD1
  generalize H1 = H at hP hS ⊢
  have hP : va_P (dC, dI) vwCl [(a0, .inr (9, [.ref aq1, .ref aq3, .ref aq12, .ref aq23, .ref aq27, .ref aq37, .ref aq39, .ref aq41, .ref aq42, .ref aq43, .ref aq45])), (aq1, .inr (7, [.ref aq2, .int 0])), (aq2, .inl (cy 0, 300, .inl (fun _ => 0))), (aq3, .inr (2, [.int 4, .int 0, .int 0, .int 0, .ref aq4, .ref aq5, .ref aq6, .ref aq7, .ref aq8, .ref aq9, .ref aq10, .ref aq11])), (aq4, .inl (cy 1, 9, .inl (fun _ => 0))), (aq5, .inl (cy 1, 9, .inl (fun _ => 0))), (aq6, .inl (cy 1, 9, .inl (fun _ => 0))), (aq7, .inl (cy 1, 4, .inl (fun _ => 0))), (aq8, .inl (cy 1, 4, .inl (fun _ => 0))), (aq9, .inl (cy 1, 3, .inl (fun _ => 0))), (aq10, .inl (cy 1, 3, .inl (fun _ => 0))), (aq11, .inl (cy 1, 3, .inl (fun _ => 0))), (aq12, .inr (4, [.ref aq1, .ref aq13, .int 1, .int 0, .int 0, .int 0, .ref aq22])), (aq13, .inr (2, [.int 4, .int 0, .int 0, .int 0, .ref aq14, .ref aq15, .ref aq16, .ref aq17, .ref aq18, .ref aq19, .ref aq20, .ref aq21])), (aq14, .inl (cy 1, 9, .inl (fun _ => 0))), (aq15, .inl (cy 1, 9, .inl (fun _ => 0))), (aq16, .inl (cy 1, 9, .inl (fun _ => 0))), (aq17, .inl (cy 1, 4, .inl (fun _ => 0))), (aq18, .inl (cy 1, 4, .inl (fun _ => 0))), (aq19, .inl (cy 1, 3, .inl (fun _ => 0))), (aq20, .inl (cy 1, 3, .inl (fun _ => 0))), (aq21, .inl (cy 1, 3, .inl (fun _ => 0))), (aq22, .inl (cy 1, 3, .inl (fun _ => 0))), (aq23, .inr (3, [.ref aq24, .ref aq25, .ref aq26, .int 0])), (aq24, .inl (cy 1, 9, .inl (fun _ => 0))), (aq25, .inl (cy 1, 20, .inl (fun _ => 0))), (aq26, .inl (cy 1, 20, .inl (fun _ => 0))), (aq27, .inl (cy 3, 2, .inr (.inr (.inr (.inr (va_up (va_up (fun _ => none) 0 (some aq29)) 1 (some aq33))))))), (aq29, .inr (3, [.ref aq30, .ref aq31, .ref aq32, .int 0])), (aq30, .inl (cy 1, 9, .inl (fun _ => 0))), (aq31, .inl (cy 1, 20, .inl (fun _ => 0))), (aq32, .inl (cy 1, 20, .inl (fun _ => 0))), (aq33, .inr (3, [.ref aq34, .ref aq35, .ref aq36, .int 0])), (aq34, .inl (cy 1, 9, .inl (fun _ => 0))), (aq35, .inl (cy 1, 20, .inl (fun _ => 0))), (aq36, .inl (cy 1, 20, .inl (fun _ => 0))), (aq37, .inl (cy 2, 2, .inl (fun _ => 0))), (aq39, .inr (8, [.ref aq3, .ref aq23, .ref aq40])), (aq40, .inl (cy 1, 5, .inl (fun _ => 0))), (aq41, .inr (5, [.ref aq3, .ref aq23, .int (-9)])), (aq42, .inr (0, [.ref aq3, .ref aq23, .int 0, .int 0, .int 0, .int 0])), (aq43, .inr (6, [.ref aq3, .ref aq23, .ref aq44])), (aq44, .inl (cy 1, 10, .inl (fun _ => 0))), (aq45, .inr (1, [.ref aq3, .ref aq23, .long 0])), (b0, .inr (10, [.int 0, .long 0, .ref bq1, .int 0, .int 0, .int 0, .int 0, .int 0, .int 0, .ref bq3, .ref bq5, .ref bq7, .ref bq9, .ref bq11, .ref bq13, .int 4, .int 0, .int 0, .int 0, .int 0, .int 0, .int 0, .int 0, .ref bq15, .ref bq17, .ref bq19, .ref bq21, .ref bq23, .ref bq25, .ref bq27, .ref bq29, .ref bq31, .ref bq33, .ref bq35])), (bq1, .inl (cy 1, 300, .inl (fun _ => 0))), (bq3, .inl (cy 1, 18, .inl (fun _ => 0))), (bq5, .inl (cy 1, 18, .inl (fun _ => 0))), (bq7, .inl (cy 1, 18, .inl (fun _ => 0))), (bq9, .inl (cy 1, 8, .inl (fun _ => 0))), (bq11, .inl (cy 1, 8, .inl (fun _ => 0))), (bq13, .inl (cy 1, 18, .inl (fun _ => 0))), (bq15, .inl (cy 1, 50, .inl (fun _ => 0))), (bq17, .inl (cy 1, 100, .inl (fun _ => 0))), (bq19, .inl (cy 2, 2, .inl (fun _ => 0))), (bq21, .inl (cy 1, 6, .inl (fun _ => 0))), (bq23, .inl (cy 1, 7, .inl (fun _ => 0))), (bq25, .inl (cy 1, 6, .inl (fun _ => 0))), (bq27, .inl (cy 1, 3000, .inl (fun _ => 0))), (bq29, .inl (cy 1, 3000, .inl (fun _ => 0))), (bq31, .inl (cy 1, 3, .inl (fun _ => 0))), (bq33, .inl (cy 1, 9, .inl (fun _ => 0))), (bq35, .inl (cy 1, 10, .inl (fun _ => 0)))] H := hP
  have hD : va_D (fun q : Nat => s.heap.size ≤ q) [(a0, .inr (9, [.ref aq1, .ref aq3, .ref aq12, .ref aq23, .ref aq27, .ref aq37, .ref aq39, .ref aq41, .ref aq42, .ref aq43, .ref aq45])), (aq1, .inr (7, [.ref aq2, .int 0])), (aq2, .inl (cy 0, 300, .inl (fun _ => 0))), (aq3, .inr (2, [.int 4, .int 0, .int 0, .int 0, .ref aq4, .ref aq5, .ref aq6, .ref aq7, .ref aq8, .ref aq9, .ref aq10, .ref aq11])), (aq4, .inl (cy 1, 9, .inl (fun _ => 0))), (aq5, .inl (cy 1, 9, .inl (fun _ => 0))), (aq6, .inl (cy 1, 9, .inl (fun _ => 0))), (aq7, .inl (cy 1, 4, .inl (fun _ => 0))), (aq8, .inl (cy 1, 4, .inl (fun _ => 0))), (aq9, .inl (cy 1, 3, .inl (fun _ => 0))), (aq10, .inl (cy 1, 3, .inl (fun _ => 0))), (aq11, .inl (cy 1, 3, .inl (fun _ => 0))), (aq12, .inr (4, [.ref aq1, .ref aq13, .int 1, .int 0, .int 0, .int 0, .ref aq22])), (aq13, .inr (2, [.int 4, .int 0, .int 0, .int 0, .ref aq14, .ref aq15, .ref aq16, .ref aq17, .ref aq18, .ref aq19, .ref aq20, .ref aq21])), (aq14, .inl (cy 1, 9, .inl (fun _ => 0))), (aq15, .inl (cy 1, 9, .inl (fun _ => 0))), (aq16, .inl (cy 1, 9, .inl (fun _ => 0))), (aq17, .inl (cy 1, 4, .inl (fun _ => 0))), (aq18, .inl (cy 1, 4, .inl (fun _ => 0))), (aq19, .inl (cy 1, 3, .inl (fun _ => 0))), (aq20, .inl (cy 1, 3, .inl (fun _ => 0))), (aq21, .inl (cy 1, 3, .inl (fun _ => 0))), (aq22, .inl (cy 1, 3, .inl (fun _ => 0))), (aq23, .inr (3, [.ref aq24, .ref aq25, .ref aq26, .int 0])), (aq24, .inl (cy 1, 9, .inl (fun _ => 0))), (aq25, .inl (cy 1, 20, .inl (fun _ => 0))), (aq26, .inl (cy 1, 20, .inl (fun _ => 0))), (aq27, .inl (cy 3, 2, .inr (.inr (.inr (.inr (va_up (va_up (fun _ => none) 0 (some aq29)) 1 (some aq33))))))), (aq29, .inr (3, [.ref aq30, .ref aq31, .ref aq32, .int 0])), (aq30, .inl (cy 1, 9, .inl (fun _ => 0))), (aq31, .inl (cy 1, 20, .inl (fun _ => 0))), (aq32, .inl (cy 1, 20, .inl (fun _ => 0))), (aq33, .inr (3, [.ref aq34, .ref aq35, .ref aq36, .int 0])), (aq34, .inl (cy 1, 9, .inl (fun _ => 0))), (aq35, .inl (cy 1, 20, .inl (fun _ => 0))), (aq36, .inl (cy 1, 20, .inl (fun _ => 0))), (aq37, .inl (cy 2, 2, .inl (fun _ => 0))), (aq39, .inr (8, [.ref aq3, .ref aq23, .ref aq40])), (aq40, .inl (cy 1, 5, .inl (fun _ => 0))), (aq41, .inr (5, [.ref aq3, .ref aq23, .int (-9)])), (aq42, .inr (0, [.ref aq3, .ref aq23, .int 0, .int 0, .int 0, .int 0])), (aq43, .inr (6, [.ref aq3, .ref aq23, .ref aq44])), (aq44, .inl (cy 1, 10, .inl (fun _ => 0))), (aq45, .inr (1, [.ref aq3, .ref aq23, .long 0])), (b0, .inr (10, [.int 0, .long 0, .ref bq1, .int 0, .int 0, .int 0, .int 0, .int 0, .int 0, .ref bq3, .ref bq5, .ref bq7, .ref bq9, .ref bq11, .ref bq13, .int 4, .int 0, .int 0, .int 0, .int 0, .int 0, .int 0, .int 0, .ref bq15, .ref bq17, .ref bq19, .ref bq21, .ref bq23, .ref bq25, .ref bq27, .ref bq29, .ref bq31, .ref bq33, .ref bq35])), (bq1, .inl (cy 1, 300, .inl (fun _ => 0))), (bq3, .inl (cy 1, 18, .inl (fun _ => 0))), (bq5, .inl (cy 1, 18, .inl (fun _ => 0))), (bq7, .inl (cy 1, 18, .inl (fun _ => 0))), (bq9, .inl (cy 1, 8, .inl (fun _ => 0))), (bq11, .inl (cy 1, 8, .inl (fun _ => 0))), (bq13, .inl (cy 1, 18, .inl (fun _ => 0))), (bq15, .inl (cy 1, 50, .inl (fun _ => 0))), (bq17, .inl (cy 1, 100, .inl (fun _ => 0))), (bq19, .inl (cy 2, 2, .inl (fun _ => 0))), (bq21, .inl (cy 1, 6, .inl (fun _ => 0))), (bq23, .inl (cy 1, 7, .inl (fun _ => 0))), (bq25, .inl (cy 1, 6, .inl (fun _ => 0))), (bq27, .inl (cy 1, 3000, .inl (fun _ => 0))), (bq29, .inl (cy 1, 3000, .inl (fun _ => 0))), (bq31, .inl (cy 1, 3, .inl (fun _ => 0))), (bq33, .inl (cy 1, 9, .inl (fun _ => 0))), (bq35, .inl (cy 1, 10, .inl (fun _ => 0)))] := hD
  refine lv_astore_n (lv' := [(2, .ref b0), (1, .ref a0), (0, .ref b)]) hx hb dL_law_15 rfl hl (by decide) rfl (fun ls hl => ?_)
  refine lv_iconst (v := 0) hx hb dL_law_16 (by decide) ?_
  refine lv_istore_n (lv' := [(3, .int 0), (2, .ref b0), (1, .ref a0), (0, .ref b)]) hx hb dL_law_17 rfl hl (by decide) rfl (fun ls hl => ?_)
  obtain ⟨ad, ead⟩ : ∃ ad : Nat → Nat, ad = fun k => [a0, aq1, aq2, aq3, aq4, aq5, aq6, aq7, aq8, aq9, aq10, aq11, aq12, aq13, aq14, aq15, aq16, aq17, aq18, aq19, aq20, aq21, aq22, aq23, aq24, aq25, aq26, aq27, aq29, aq30, aq31, aq32, aq33, aq34, aq35, aq36, aq37, aq39, aq40, aq41, aq42, aq43, aq44, aq45].getD k 0 := ⟨_, rfl⟩
  obtain ⟨ad2, ead2⟩ : ∃ ad2 : Nat → Nat, ad2 = fun k => [b0, bq1, bq3, bq5, bq7, bq9, bq11, bq13, bq15, bq17, bq19, bq21, bq23, bq25, bq27, bq29, bq31, bq33, bq35].getD k 0 := ⟨_, rfl⟩
  have hP9 : va_P (dC, dI) vwCl (wP ad cy f_start 0) H := by rw [ead]; exact hP.sub [0, 1, 2, 3, 4, 5, 6, 7, 8, 9, 10, 11, 12, 13, 14, 15, 16, 17, 18, 19, 20, 21, 22, 23, 24, 25, 26, 27, 28, 29, 30, 31, 32, 33, 34, 35, 36, 37, 38, 39, 40, 41, 42, 43] rfl
  have hP10 : va_P (dC, dI) vwCl (wR ad2 cy g_start 0) H := by rw [ead2]; exact hP.sub [44, 45, 46, 47, 48, 49, 50, 51, 52, 53, 54, 55, 56, 57, 58, 59, 60, 61, 62] rfl
  have hD9 : va_D (fun q : Nat => s.heap.size ≤ q) (wP ad cy f_start 0 ++ wR ad2 cy g_start 0) := by rw [ead, ead2]; exact hD.sub [0, 1, 2, 3, 4, 5, 6, 7, 8, 9, 10, 11, 12, 13, 14, 15, 16, 17, 18, 19, 20, 21, 22, 23, 24, 25, 26, 27, 28, 29, 30, 31, 32, 33, 34, 35, 36, 37, 38, 39, 40, 41, 42, 43, 44, 45, 46, 47, 48, 49, 50, 51, 52, 53, 54, 55, 56, 57, 58, 59, 60, 61, 62] (by decide) rfl
  obtain ⟨hj, hj2, hdj, hup, hup2⟩ := apart_start hD9
  refine law_loop C0 hj hj2 hdj hup hup2 hK (hxP ad hup) hL (sims_all (N := NN) (Nat.le_refl _)) (L + 6) 0 (by omega) (by omega) f_start 0 g_start 0 inv_start H locs ls hP9 hP10 hS ?_
  have e0 : ad 0 = a0 := by rw [ead]; rfl
  have e1 : ad2 0 = b0 := by rw [ead2]; rfl
  rw [e0, e1]
  exact lv_sub hl [3, 2, 1, 0] rfl

set_option maxHeartbeats 4000000 in
theorem lw_walk (l : Launch) (b : Addr) (xs : List Int32) : MetFree l x (headSpec (Jvm.Cond.code x code maxLocals ret :: tables_1) room_1) (lw_P b xs) (fun _ _ _ _ _ => True) lw_Q := by
  refine MetFree.of_bodyS (code := code) (maxLocals := maxLocals) (ret := ret) (by decide) ?_ ?_
  · intro args s m h hn
    obtain ⟨meth, c, h1, h2, h3, h4, h5, h6, -, -⟩ := Cond.code_spec hn (atoms_spec (ws := Jvm.Cond.code x code maxLocals ret :: tables_1) h _ List.mem_cons_self)
    exact ⟨meth, c, h1, h2, h3, h4, h5, h6⟩
  · intro p e s m args below meth c s₁ B hml0 hP _
    obtain ⟨rfl, hx, hbd, hgv⟩ := hP
    obtain ⟨scr, harrAt, hlist, hof, hsmall⟩ := hx
    obtain ⟨hcb, hkn, -, -⟩ := State.arrayAt?_spec harrAt
    have hown : s.vm.findClass R_law = some m.cls := findClass_of_methodNamed B.named
    have hts0 : ∀ c ∈ (Jvm.Cond.code x code maxLocals ret :: tables_1), c.before #[Value.ref b] s = true := atoms_spec (ws := Jvm.Cond.code x code maxLocals ret :: tables_1) B.pre
    have hts : ∀ w ∈ lw_tbl, w.before #[Value.ref b] s = true := k2_hts_sels lw_privs (fun w hw => hts0 w (List.mem_cons_of_mem _ hw)) lw_privs_ok
    have hml : c.maxLocals = 4 := B.maxLocals_eq (hts0 _ List.mem_cons_self)
    have X₀ : Stand p l e room_1 s m #[Value.ref b] below meth c s₁ [] 0 0 := Stand.of_body B
    have hh0 : s₁.heap = s.heap := by rw [B.state]; rfl
    have hsz : scr.slots.size = xs.length := by rw [← Array.length_toList, hlist, List.length_map]
    have hval : ∀ j : Nat, j < xs.length → scr.slots[j]? = some (.int (xs.getD j 0)) := fun j hj => by
      rw [← Array.getElem?_toList, hlist]
      simp [hj]
    have hbl : b < s.heap.size := (Array.getElem?_eq_some_iff.mp hcb).1
    have hX : va_X b xs.length (fun j => xs.getD j 0) s s.heap := ⟨scr, hcb, hof, hkn, hsz, hval⟩
    have K : W p l e room_1 s m #[Value.ref b] below meth c s₁.heap [] 0 0 (lw_Z below #[Value.ref b] s) (entryFrame m ([Value.ref b] : List Value).toArray 4) := by
      rw [hh0]
      exact whole_start l hbd ⟨B.exec, B.bytes, B.returns, hml, hown, hts, hX, hbl, B.notSynchronized, hgv⟩
    obtain ⟨t, a1, o, b1, b2, b3⟩ := K s₁ rfl X₀
    exact ⟨t, o, a1, b1, b2, b3⟩
theorem lw_pre_spec {args : Array Value} {s : State} (h : (Jvm.Cond.and given_1 narrow_1).before args s = true) (hr : rest_1_c.before args s = true) : ∃ (b : Addr) (xs : List Int32), lw_P b xs args s := by
  have hs := flat_of_before _ h
  have hq := flat_of_before _ hr
  have hc : (Cond.count 1).before args s = true := hs _ (by decide +kernel)
  have harr : (Cond.arrayOf (.arg 0) .int).before args s = true := hs _ (by decide +kernel)
  have hle : (Cond.le (.length (.arg 0)) (.int 2560)).before args s = true := hs _ (by decide +kernel)
  have hlen : (Cond.isInt (.length (.arg 0))).before args s = true := hq _ (by decide +kernel)
  have hall : (Cond.all (.arg 0) (.isInt (.elem (.arg 0) (.index 0)))).before args s = true := hq _ (by decide +kernel)
  obtain ⟨b, xs, hb, hx⟩ := State.ints_of_pre rfl harr hlen hall
  have hsm : xs.length < 2 ^ 31 := hx.choose_spec.2.2.2
  have hev : (Term.length (.arg 0)).eval args s none [] s = some (.int xs.length.toInt32) := hx.length_eval hb
  have hv := Cond.le_ints hev (show (Term.int 2560).eval args s none [] s = some (.int 2560) from rfl)
  have hd : xs.length.toInt32 ≤ 2560 := by
    simpa [Cond.before, Cond.holds, hv] using hle
  have hN : xs.length ≤ 2560 := (Int32.ofNat_le_ofNat hsm (by decide)).mp (show Int32.ofNat xs.length ≤ Int32.ofNat 2560 from hd)
  exact ⟨b, xs, Cond.one_arg hc (show args[0]? = some (.ref b) from hb), hx, hN, h⟩
theorem lw_comes (l : Launch) : Comes l x (Jvm.Cond.code x code maxLocals ret :: tables_1) room_1 (fun tb e args s => Calls_1 tb e args s ∧ rest_1 tb e args s ∧ Pre_1 tb e args s)
    (fun _ _ args s o t => lw_Q args s o t) := by
  intro p e ha hc hk s m args below hf hfit hheap happ hpre
  obtain ⟨b, xs, hP⟩ := lw_pre_spec hpre.2.2 hpre.2.1
  obtain ⟨k, o, h1, h2, h3, hQ⟩ := lw_walk l b xs p e ha hc hk s m args below hf ((Spec.applies_iff_loose hf).mp happ).1 hP trivial
  exact ⟨k, o, h1, h2, h3, hQ⟩
theorem lw_frame {s t : State} {o : Outcome} {args : Array Value} (h : Framed s o t [] 600000 7302250) :
    Framed s o t (fieldLocs frame_1_writes args s ++ arrayLocs frame_1_arrays args s ++ staticLocs frame_1_statics s) 600000 7302250 := h
theorem lw_limb (L : Cond) (hL : ∀ (args : Array Value) (s t : State), L.after args s (.returned (some (.int 1))) t = true) :
    ArmFor flags0 classFile x code maxLocals ret World_1 tables_1 room_1 Calls_1 rest_1 Pre_1
      (fun tb e a s o t => postC L tb e a s o t ∧ Framed s o t (fieldLocs frame_1_writes a s ++ arrayLocs frame_1_arrays a s ++ staticLocs frame_1_statics s) 600000 7302250) := by
  intro l _ _ _ p e ha hc hk s m args below hf hfit hheap happ hpre
  obtain ⟨k, o, h1, h2, h3, rfl, hF⟩ := lw_comes l p e ha hc hk s m args below hf hfit hheap happ hpre
  exact ⟨k, _, h1, h2, h3, hL args s _, lw_frame hF⟩
theorem i_vc : Claimed_1_1 ∧ Claimed_1_2 := ⟨lw_limb limb_1_1 (fun args s t => by simp [limb_1_1, Cond.after, Cond.holds, Cond.value]), lw_limb limb_1_2 (fun args s t => Cond.after_iff.mpr (by
  first | (rw [show limb_1_2 = Cond.eq .result (.int 1) from rfl, Cond.eq_ints (x := 1) (y := 1) rfl rfl]; simp; done) | (simp [limb_1_2, Cond.value, Term.eval]; done)))⟩
