/-! a plank -/
def adP (M : tM) (a b l : Nat) : tM := fun c j => if c = 0 then (if j = 1 then M 0 1 + 1 else M 0 j) else if j = M 0 1 then (if c = 1 then a else if c = 2 then b else if c = 3 then l else M c j) else M c j
theorem adP_o {M : tM} {a b l c j : Nat} (h : c ≠ 0) (h2 : c ≠ 1 ∧ c ≠ 2 ∧ c ≠ 3 ∨ j ≠ M 0 1) : adP M a b l c j = M c j := by
  unfold adP
  rw [if_neg h]
  by_cases e : j = M 0 1
  · rw [if_pos e, if_neg (by omega), if_neg (by omega), if_neg (by omega)]
  · rw [if_neg e]
theorem adP1 {M : tM} {a b l : Nat} : adP M a b l 1 (M 0 1) = a := by simp [adP]
theorem adP2 {M : tM} {a b l : Nat} : adP M a b l 2 (M 0 1) = b := by simp [adP]
theorem adP3 {M : tM} {a b l : Nat} : adP M a b l 3 (M 0 1) = l := by simp [adP]
/-- the class adds a plank -/
theorem adF_plank {f3 f : mM} {M : tM} {v1 v2 v3 : Nat} (h0 : M 0 1 < 9) (d1 : f 13 1 = nI (M 0 1)) (x13 : f3 13 = f 13) (x0 : f3 22 0 = nI v1) (x1 : f3 22 1 = nI v2) (x2 : f3 22 2 = nI v3) : q_X4_addItem (nI 5) f3 = some (st2 (st2 (st2 (st2 f3 14 (M 0 1) (nI v1)) 15 (M 0 1) (nI v2)) 16 (M 0 1) (nI v3)) 13 1 (nI (M 0 1 + 1))) := by
  have k50 : ¬ nI 5 = 4 := by decide
  unfold q_X4_addItem
  rw [if_neg k50, show nI 5 = 5 from rfl, if_pos rfl, gi_lit _ (by decide), gi_lit _ (by decide), gi_lit _ (by decide), show Int32.toNatClampNeg 0 = 0 from by decide, show Int32.toNatClampNeg 1 = 1 from by decide, show Int32.toNatClampNeg 2 = 2 from by decide, x0, x1, x2]
  unfold q_X2_addPlank
  have y1 : st2 f3 14 (M 0 1) (nI v1) 13 1 = nI (M 0 1) := by rw [st2_c (by decide), x13]; exact d1
  have y2 : st2 (st2 f3 14 (M 0 1) (nI v1)) 15 (M 0 1) (nI v2) 13 1 = nI (M 0 1) := by rw [st2_c (by decide)]; exact y1
  have y3 : st2 (st2 (st2 f3 14 (M 0 1) (nI v1)) 15 (M 0 1) (nI v2)) 16 (M 0 1) (nI v3) 13 1 = nI (M 0 1) := by rw [st2_c (by decide)]; exact y2
  simp only [sq]
  rw [x13, d1, if_neg (show ¬ (9 : Int32) ≤ nI (M 0 1) from nI_ge (b := 9) h0 (by decide)), gi_in _ h0 (by decide), cl_nI (by omega), y1, gi_in _ h0 (by decide), cl_nI (by omega), y2, gi_in _ h0 (by decide), cl_nI (by omega), y3, nI_1, bi_some]
theorem DR_plank {f3 f g g3 : mM} {M : tM} {v1 v2 v3 : Nat} (hD : DR f g M) (h0 : M 0 1 < 9) (hv1 : v1 < M 0 0) (hv2 : v2 < M 0 0) (hv : v2 ≠ v1) (hv3 : v3 ≤ 9) (xc : ∀ c, 13 ≤ c → c ≤ 21 → f3 c = f c) (z2 : ∀ j, g3 2 j = if j = 9 + M 0 1 then nI v1 else g 2 j) (z3 : ∀ j, g3 3 j = if j = 9 + M 0 1 then nI v2 else g 3 j) (z4 : ∀ j, g3 4 j = if j = 9 + M 0 1 then nI v3 else g 4 j) (zc : ∀ c, 5 ≤ c → c ≤ 7 → g3 c = g c) (z0 : ∀ k, 19 ≤ k → k ≠ 20 → g3 0 k = g 0 k) (z20 : g3 0 20 = nI (M 0 1 + 1)) : DR (st2 (st2 (st2 (st2 f3 14 (M 0 1) (nI v1)) 15 (M 0 1) (nI v2)) 16 (M 0 1) (nI v3)) 13 1 (nI (M 0 1 + 1))) g3 (adP M v1 v2 v3) := by
  obtain ⟨hw, d1, d2, d3, d4, d5⟩ := hD
  have p1 : adP M v1 v2 v3 0 1 = M 0 1 + 1 := rfl
  have p0 : adP M v1 v2 v3 0 0 = M 0 0 := rfl
  have p2 : adP M v1 v2 v3 0 2 = M 0 2 := rfl
  have p3 : adP M v1 v2 v3 0 3 = M 0 3 := rfl
  have o := fun (c j : Nat) (h : c ≠ 0) (h2 : c ≠ 1 ∧ c ≠ 2 ∧ c ≠ 3 ∨ j ≠ M 0 1) => adP_o (M := M) (a := v1) (b := v2) (l := v3) (c := c) (j := j) h h2
  have x13 := xc 13 (by decide) (by decide)
  refine ⟨⟨?_, fun k hk => ?_, fun k hk => ?_, fun k hk => ?_⟩, ?_, ?_, fun k hk => ?_, fun k hk => ?_, fun k hk => ?_⟩
  · rw [p0, p1, p2, p3]; have := hw.1; omega
  · rw [p1] at hk
    rw [p0]
    by_cases e : k = M 0 1
    · subst e; rw [adP1, adP2]; omega
    · rw [o 1 k (by decide) (Or.inr e), o 2 k (by decide) (Or.inr e)]
      exact hw.2.1 k (by omega)
  · rw [o 4 k (by decide) (Or.inl (by decide)), o 5 k (by decide) (Or.inl (by decide))]
    exact hw.2.2.1 k hk
  · rw [p2, p0, o 6 k (by decide) (Or.inl (by decide)), o 7 k (by decide) (Or.inl (by decide)), o 8 k (by decide) (Or.inl (by decide))]
    exact hw.2.2.2 k hk
  · rw [p0, p1, p2, p3, st2_e, st2_k (by decide), st2_k (by decide), st2_k (by decide), st2_c (by decide), st2_c (by decide), st2_c (by decide), x13]
    exact ⟨d1.1, rfl, d1.2.2.1, d1.2.2.2⟩
  · rw [p0, p1, p2, p3, z0 19 (by decide) (by decide), z0 21 (by decide) (by decide), z0 22 (by decide) (by decide), z20]
    exact ⟨d2.1, rfl, d2.2.2.1, d2.2.2.2⟩
  · rw [p1] at hk
    have y14 : st2 (st2 (st2 (st2 f3 14 (M 0 1) (nI v1)) 15 (M 0 1) (nI v2)) 16 (M 0 1) (nI v3)) 13 1 (nI (M 0 1 + 1)) 14 = st2 f3 14 (M 0 1) (nI v1) 14 := by rw [st2_c (by decide), st2_c (by decide), st2_c (by decide)]
    have y15 : st2 (st2 (st2 (st2 f3 14 (M 0 1) (nI v1)) 15 (M 0 1) (nI v2)) 16 (M 0 1) (nI v3)) 13 1 (nI (M 0 1 + 1)) 15 = st2 (st2 f3 14 (M 0 1) (nI v1)) 15 (M 0 1) (nI v2) 15 := by rw [st2_c (by decide), st2_c (by decide)]
    have y16 : st2 (st2 (st2 (st2 f3 14 (M 0 1) (nI v1)) 15 (M 0 1) (nI v2)) 16 (M 0 1) (nI v3)) 13 1 (nI (M 0 1 + 1)) 16 = st2 (st2 (st2 f3 14 (M 0 1) (nI v1)) 15 (M 0 1) (nI v2)) 16 (M 0 1) (nI v3) 16 := by rw [st2_c (by decide)]
    rw [y14, y15, y16, z2, z3, z4]
    by_cases e : k = M 0 1
    · subst e
      rw [adP1, adP2, adP3, st2_e, st2_e, st2_e, if_pos rfl, if_pos rfl, if_pos rfl]
      exact ⟨hv3, rfl, rfl, rfl, rfl, rfl, rfl⟩
    · rw [o 1 k (by decide) (Or.inr e), o 2 k (by decide) (Or.inr e), o 3 k (by decide) (Or.inr e), st2_k e, st2_k e, st2_k e, st2_c (c := 15) (by decide), st2_c (c := 14) (by decide), st2_c (c := 14) (by decide), xc 14 (by decide) (by decide), xc 15 (by decide) (by decide), xc 16 (by decide) (by decide), if_neg (by omega), if_neg (by omega), if_neg (by omega)]
      exact d3 k (by omega)
  · rw [o 4 k (by decide) (Or.inl (by decide)), o 5 k (by decide) (Or.inl (by decide)), st2_c (by decide), st2_c (by decide), st2_c (by decide), st2_c (by decide), st2_c (by decide), st2_c (by decide), st2_c (by decide), st2_c (by decide), xc 17 (by decide) (by decide), xc 18 (by decide) (by decide), zc 5 (by decide) (by decide), zc 6 (by decide) (by decide)]
    exact d4 k hk
  · rw [o 6 k (by decide) (Or.inl (by decide)), o 7 k (by decide) (Or.inl (by decide)), o 8 k (by decide) (Or.inl (by decide)), st2_c (by decide), st2_c (by decide), st2_c (by decide), st2_c (by decide), st2_c (by decide), st2_c (by decide), st2_c (by decide), st2_c (by decide), st2_c (by decide), st2_c (by decide), st2_c (by decide), st2_c (by decide), xc 19 (by decide) (by decide), xc 20 (by decide) (by decide), xc 21 (by decide) (by decide), zc 7 (by decide) (by decide)]
    exact d5 k hk
theorem it_plank {N L : Nat} {B : Nat → Nat} {i : Nat} {f g : mM} {M : tM} (hB : TxB L B) (hN : 1000 ≤ N) (hJ : J N L B i f g) (hD : DR f g M) (h0 : M 0 1 < 9) : IO N L B i 5 f g := by
  obtain ⟨hw, d1, d2, d3, d4, d5⟩ := id hD
  have hw1 := hw.1
  have k50 : ¬ nI 5 = 4 := by decide
  have r0 : ¬ nI (5 - 4) = 0 := by decide
  have t2 : tG 2 (9 + M 0 1) := Or.inr (Or.inl ⟨Or.inl rfl, by omega⟩)
  have t3 : tG 3 (9 + M 0 1) := Or.inr (Or.inl ⟨Or.inr (Or.inl rfl), by omega⟩)
  have t4 : tG 4 (9 + M 0 1) := Or.inr (Or.inl ⟨Or.inr (Or.inr (Or.inl rfl)), by omega⟩)
  have t8 : tG 0 8 := Or.inl ⟨rfl, Or.inl ⟨by decide, by decide⟩⟩
  have t20 : tG 0 20 := Or.inl ⟨rfl, Or.inr ⟨by decide, by decide⟩⟩
  rcases num2 hB hN hJ (x := 0) (by decide) 0 (nI (M 0 0) - 1) with ⟨f1, g1, b1, v1, a1, a2, a3, a4, a5, a6, a7, a8, a9, a10, a11⟩ | ⟨f1, s, a1, a2, a3, a4, a5⟩
  · have u1 : v1 < M 0 0 := le_m1 a9 (by omega) a11
    have e20 : g1 0 20 = nI (M 0 1) := by rw [a6.2 20 (by decide)]; exact d2.2.1
    have e20a : st2 g1 2 (9 + M 0 1) (nI v1) 0 20 = nI (M 0 1) := by rw [st2_c (by decide)]; exact e20
    have e19a : st2 g1 2 (9 + M 0 1) (nI v1) 0 19 = nI (M 0 0) := by rw [st2_c (by decide), a6.2 19 (by decide)]; exact d2.1
    rcases unl2 hB hN (a7.stA (c := 2) (k := 9 + M 0 1) (x := nI v1) (by decide)) (x := 1) (y := 0) (by decide) (by decide) a9 a4 e19a with ⟨f2, g2, b2, v2, c1, c0, c2, c3, c4, c5, c6, c7, c8, c9, c10, c11, c12⟩ | ⟨f2, s, c2, c3, c4, c5, c6⟩
    · have u2 : v2 < M 0 0 := le_m1 c9 (by omega) c11
      have e20b : st2 g2 3 (9 + M 0 1) (nI v2) 0 20 = nI (M 0 1) := by rw [st2_c (by decide), c6.2 20 (by decide)]; exact e20a
      rcases num2 hB hN (c7.stA (c := 3) (k := 9 + M 0 1) (x := nI v2) (by decide)) (x := 2) (by decide) 0 9 with ⟨f3, g3, b3, v3, q1, q2, q3, q4, q5, q6, q7, q8, q9, q10, q11⟩ | ⟨f3, s, q1, q2, q3, q4, q5⟩
      · left
        have u3 : v3 ≤ 9 := (nI_leI (b := 9) (by omega) (by omega)).mp q11
        have e20c : st2 g3 4 (9 + M 0 1) (nI v3) 0 20 = nI (M 0 1) := by rw [st2_c (by decide), q6.2 20 (by decide)]; exact e20b
        refine ⟨f3, st2 (st2 g3 4 (9 + M 0 1) (nI v3)) 0 20 (nI (M 0 1 + 1)), b3, ?_, fun c h1 h2 => (q2 c h1 h2).trans ((c2 c h1 h2).trans (a2 c h1 h2)), ?_, ((((((FG.rf.ag a6).st t2).ag c6).st t3).ag q6).st t4).st t20, (q7.stA (by decide)).st0 (by decide), by omega, fun f4 g4 e1 hA => ?_⟩
        · unfold q_X4_readNumbers
          simp only [sq]
          rw [d1.1, if_neg k50, show nI 5 = 5 from rfl, if_pos rfl, show q_X4_readNumber N 0 0 (nI (M 0 0) - 1) f = some (1, f1) from a1, bi2_some, if_neg z10, show q_X4_readNumber N 1 0 (nI (M 0 0) - 1) f1 = some (1, f2) from c1, bi2_some, if_neg z10, gi_lit _ (by decide), gi_lit _ (by decide), show Int32.toNatClampNeg 0 = 0 from by decide, show Int32.toNatClampNeg 1 = 1 from by decide, if_neg c0, show q_X4_readNumber N 2 0 9 f2 = some (1, f3) from q1, bi2_some, if_neg z10, rz1]
        · unfold q_X10_readsItem
          rw [if_neg r0, show nI (5 - 4) = 1 from rfl, if_pos rfl, d2.1, a5, bi2_some]
          simp only [sq]
          rw [e20, n9, gi_in _ (by omega) (by decide), cl_nI (by omega), c5, bi2_some, e20a, n9, gi_in _ (by omega) (by decide), cl_nI (by omega), q5, bi2_some, e20b, n9, gi_in _ (by omega) (by decide), cl_nI (by omega), e20c, nI_1]
        · have xc : ∀ c, 13 ≤ c → c ≤ 21 → f4 c = f c := fun c h1 h2 => (e1 c (by omega)).trans ((q2 c (by omega) (by omega)).trans ((c2 c (by omega) (by omega)).trans (a2 c (by omega) (by omega))))
          have x0 : f4 22 0 = nI v1 := by rw [e1 22 (by decide), q3 0 (by decide), c3 0 (by decide)]; exact a4
          have x1 : f4 22 1 = nI v2 := by rw [e1 22 (by decide), q3 1 (by decide)]; exact c4
          have x2 : f4 22 2 = nI v3 := by rw [e1 22 (by decide)]; exact q4
          have z2 : g4 2 = st2 g1 2 (9 + M 0 1) (nI v1) 2 := by rw [hA.1 2 (by decide), st2_c (by decide), st2_c (by decide), q6.1 2 (by decide), st2_c (by decide), c6.1 2 (by decide)]
          have z3 : g4 3 = st2 g2 3 (9 + M 0 1) (nI v2) 3 := by rw [hA.1 3 (by decide), st2_c (by decide), st2_c (by decide), q6.1 3 (by decide)]
          have z3b : g2 3 = g 3 := by rw [c6.1 3 (by decide), st2_c (by decide), a6.1 3 (by decide)]
          have z4 : g4 4 = st2 g3 4 (9 + M 0 1) (nI v3) 4 := by rw [hA.1 4 (by decide), st2_c (by decide)]
          have z4b : g3 4 = g 4 := by rw [q6.1 4 (by decide), st2_c (by decide), c6.1 4 (by decide), st2_c (by decide), a6.1 4 (by decide)]
          refine ⟨_, _, adF_plank h0 d1.2.1 (xc 13 (by decide) (by decide)) x0 x1 x2, fun c hc => by rw [st2_c (by omega), st2_c (by omega), st2_c (by omega), st2_c (by omega)], DR_plank hD h0 u1 u2 c12 u3 xc (fun j => ?_) (fun j => ?_) (fun j => ?_) (fun c h1 h2 => ?_) (fun k h1 h2 => ?_) ?_⟩
          · rw [z2, st2_at, a6.1 2 (by decide)]; simp
          · rw [z3, st2_at, z3b]; simp
          · rw [z4, st2_at, z4b]; simp
          · rw [hA.1 c (by omega), st2_c (by omega), st2_c (by omega), q6.1 c (by omega), st2_c (by omega), c6.1 c (by omega), st2_c (by omega), a6.1 c (by omega)]
          · rw [hA.2 k (by omega), st2_k h2, st2_c (by decide), q6.2 k (by omega), st2_c (by decide), c6.2 k (by omega), st2_c (by decide), a6.2 k (by omega)]
          · rw [hA.2 20 (by decide), st2_e]
      · right
        have w20 : st2 (st2 g2 3 (9 + M 0 1) (nI v2)) 0 8 (nI s) 0 20 = nI (M 0 1) := by rw [st2_k (by decide)]; exact e20b
        refine ⟨f3, st2 (st2 (st2 (st2 g2 3 (9 + M 0 1) (nI v2)) 0 8 (nI s)) 4 (9 + M 0 1) 0) 0 20 (nI (M 0 1 + 1)), s, ?_, fun c h1 h2 => (q2 c h1).trans ((c2 c h1 h2).trans (a2 c h1 h2)), q3, q4, ?_, ((((((FG.rf.ag a6).st t2).ag c6).st t3).st t8).st t4).st t20, by rw [st2_k (by decide), st2_c (by decide), st2_e]⟩
        · unfold q_X4_readNumbers
          simp only [sq]
          rw [d1.1, if_neg k50, show nI 5 = 5 from rfl, if_pos rfl, show q_X4_readNumber N 0 0 (nI (M 0 0) - 1) f = some (1, f1) from a1, bi2_some, if_neg z10, show q_X4_readNumber N 1 0 (nI (M 0 0) - 1) f1 = some (1, f2) from c1, bi2_some, if_neg z10, gi_lit _ (by decide), gi_lit _ (by decide), show Int32.toNatClampNeg 0 = 0 from by decide, show Int32.toNatClampNeg 1 = 1 from by decide, if_neg c0, show q_X4_readNumber N 2 0 9 f2 = some (0, f3) from q1, bi2_some, if_pos rfl, rz0]
        · unfold q_X10_readsItem
          rw [if_neg r0, show nI (5 - 4) = 1 from rfl, if_pos rfl, d2.1, a5, bi2_some]
          simp only [sq]
          rw [e20, n9, gi_in _ (by omega) (by decide), cl_nI (by omega), c5, bi2_some, e20a, n9, gi_in _ (by omega) (by decide), cl_nI (by omega), q5, bi2_some, e20b, n9, gi_in _ (by omega) (by decide), cl_nI (by omega), st2_c (c := 4) (d := 0) (by decide), w20, nI_1]
    · right
      have w20 : st2 (st2 g1 2 (9 + M 0 1) (nI v1)) 0 8 (nI s) 0 20 = nI (M 0 1) := by rw [st2_k (by decide)]; exact e20a
      have w8 : st2 (st2 (st2 g1 2 (9 + M 0 1) (nI v1)) 0 8 (nI s)) 3 (9 + M 0 1) 0 0 8 = nI s := by rw [st2_c (by decide), st2_e]
      have w20b : st2 (st2 (st2 g1 2 (9 + M 0 1) (nI v1)) 0 8 (nI s)) 3 (9 + M 0 1) 0 0 20 = nI (M 0 1) := by rw [st2_c (by decide)]; exact w20
      refine ⟨f2, st2 (st2 (st2 (st2 (st2 g1 2 (9 + M 0 1) (nI v1)) 0 8 (nI s)) 3 (9 + M 0 1) 0) 4 (9 + M 0 1) 0) 0 20 (nI (M 0 1 + 1)), s, ?_, fun c h1 h2 => (c2 c h1 h2).trans (a2 c h1 h2), c3, c4, ?_, (((((FG.rf.ag a6).st t2).st t8).st t3).st t4).st t20, by rw [st2_k (by decide), st2_c (by decide)]; exact w8⟩
      · unfold q_X4_readNumbers
        simp only [sq]
        rw [d1.1, if_neg k50, show nI 5 = 5 from rfl, if_pos rfl, show q_X4_readNumber N 0 0 (nI (M 0 0) - 1) f = some (1, f1) from a1, bi2_some, if_neg z10]
        rcases c6 with c6 | ⟨c6, c7⟩
        · rw [show q_X4_readNumber N 1 0 (nI (M 0 0) - 1) f1 = some (0, f2) from c6, bi2_some, if_pos rfl, rz0]
        · rw [show q_X4_readNumber N 1 0 (nI (M 0 0) - 1) f1 = some (1, f2) from c6, bi2_some, if_neg z10, gi_lit _ (by decide), gi_lit _ (by decide), show Int32.toNatClampNeg 0 = 0 from by decide, show Int32.toNatClampNeg 1 = 1 from by decide, if_pos c7, rz0]
      · unfold q_X10_readsItem
        rw [if_neg r0, show nI (5 - 4) = 1 from rfl, if_pos rfl, d2.1, a5, bi2_some]
        simp only [sq]
        rw [e20, n9, gi_in _ (by omega) (by decide), cl_nI (by omega), c5, bi2_some, e20a, n9, gi_in _ (by omega) (by decide), cl_nI (by omega), number_dead w8 c4, bi2_some, w20b, n9, gi_in _ (by omega) (by decide), cl_nI (by omega), st2_c (c := 4) (d := 0) (by decide), w20b, nI_1]
  · right
    have w20 : st2 g 0 8 (nI s) 0 20 = nI (M 0 1) := by rw [st2_k (by decide)]; exact d2.2.1
    have w8a : st2 (st2 g 0 8 (nI s)) 2 (9 + M 0 1) 0 0 8 = nI s := by rw [st2_c (by decide), st2_e]
    have w20a : st2 (st2 g 0 8 (nI s)) 2 (9 + M 0 1) 0 0 20 = nI (M 0 1) := by rw [st2_c (by decide)]; exact w20
    have w8b : st2 (st2 (st2 g 0 8 (nI s)) 2 (9 + M 0 1) 0) 3 (9 + M 0 1) 0 0 8 = nI s := by rw [st2_c (by decide)]; exact w8a
    have w20b : st2 (st2 (st2 g 0 8 (nI s)) 2 (9 + M 0 1) 0) 3 (9 + M 0 1) 0 0 20 = nI (M 0 1) := by rw [st2_c (by decide)]; exact w20a
    refine ⟨f1, st2 (st2 (st2 (st2 (st2 g 0 8 (nI s)) 2 (9 + M 0 1) 0) 3 (9 + M 0 1) 0) 4 (9 + M 0 1) 0) 0 20 (nI (M 0 1 + 1)), s, ?_, fun c h1 h2 => a2 c h1, a3, a4, ?_, ((((FG.rf.st t8).st t2).st t3).st t4).st t20, by rw [st2_k (by decide), st2_c (by decide)]; exact w8b⟩
    · unfold q_X4_readNumbers
      simp only [sq]
      rw [d1.1, if_neg k50, show nI 5 = 5 from rfl, if_pos rfl, show q_X4_readNumber N 0 0 (nI (M 0 0) - 1) f = some (0, f1) from a1, bi2_some, if_pos rfl, rz0]
    · unfold q_X10_readsItem
      rw [if_neg r0, show nI (5 - 4) = 1 from rfl, if_pos rfl, d2.1, a5, bi2_some]
      simp only [sq]
      rw [w20, n9, gi_in _ (by omega) (by decide), cl_nI (by omega), unlike_dead w8a a4, bi2_some, w20a, n9, gi_in _ (by omega) (by decide), cl_nI (by omega), number_dead w8b a4, bi2_some, w20b, n9, gi_in _ (by omega) (by decide), cl_nI (by omega), st2_c (c := 4) (d := 0) (by decide), w20b, nI_1]
