/-! an errand -/
def adE (M : tM) (a b l : Nat) : tM := fun c j => if c = 0 then (if j = 3 then M 0 3 + 1 else M 0 j) else if j = M 0 3 then (if c = 6 then a else if c = 7 then b else if c = 8 then l else M c j) else M c j
theorem adE_o {M : tM} {a b l c j : Nat} (h : c ≠ 0) (h2 : c ≠ 6 ∧ c ≠ 7 ∧ c ≠ 8 ∨ j ≠ M 0 3) : adE M a b l c j = M c j := by
  unfold adE
  rw [if_neg h]
  by_cases e : j = M 0 3
  · rw [if_pos e, if_neg (by omega), if_neg (by omega), if_neg (by omega)]
  · rw [if_neg e]
theorem adE6 {M : tM} {a b l : Nat} : adE M a b l 6 (M 0 3) = a := by simp [adE]
theorem adE7 {M : tM} {a b l : Nat} : adE M a b l 7 (M 0 3) = b := by simp [adE]
theorem adE8 {M : tM} {a b l : Nat} : adE M a b l 8 (M 0 3) = l := by simp [adE]
theorem adF_errand {f3 f : mM} {M : tM} {v1 v2 v3 : Nat} (h0 : M 0 3 < 3) (d1 : f 13 3 = nI (M 0 3)) (x13 : f3 13 = f 13) (x0 : f3 22 0 = nI v1) (x1 : f3 22 1 = nI v2) (x2 : f3 22 2 = nI v3) : q_X4_addItem (nI 7) f3 = some (st2 (st2 (st2 (st2 f3 19 (M 0 3) (nI v1)) 20 (M 0 3) (nI v2)) 21 (M 0 3) (nI v3)) 13 3 (nI (M 0 3 + 1))) := by
  have k0 : ¬ nI 7 = 4 := by decide
  have k1 : ¬ nI 7 = 5 := by decide
  have k2 : ¬ nI 7 = 6 := by decide
  unfold q_X4_addItem
  rw [if_neg k0, if_neg k1, if_neg k2, show nI 7 = 7 from rfl, if_pos rfl, gi_lit _ (by decide), gi_lit _ (by decide), gi_lit _ (by decide), show Int32.toNatClampNeg 0 = 0 from by decide, show Int32.toNatClampNeg 1 = 1 from by decide, show Int32.toNatClampNeg 2 = 2 from by decide, x0, x1, x2]
  unfold q_X2_addErrand
  have y1 : st2 f3 19 (M 0 3) (nI v1) 13 3 = nI (M 0 3) := by rw [st2_c (by decide), x13]; exact d1
  have y2 : st2 (st2 f3 19 (M 0 3) (nI v1)) 20 (M 0 3) (nI v2) 13 3 = nI (M 0 3) := by rw [st2_c (by decide)]; exact y1
  have y3 : st2 (st2 (st2 f3 19 (M 0 3) (nI v1)) 20 (M 0 3) (nI v2)) 21 (M 0 3) (nI v3) 13 3 = nI (M 0 3) := by rw [st2_c (by decide)]; exact y2
  simp only [sq]
  rw [x13, d1, if_neg (show ¬ (3 : Int32) ≤ nI (M 0 3) from nI_ge (b := 3) h0 (by decide)), gi_in _ h0 (by decide), cl_nI (by omega), y1, gi_in _ h0 (by decide), cl_nI (by omega), y2, gi_in _ h0 (by decide), cl_nI (by omega), y3, nI_1, bi_some]
theorem DR_errand {f3 f g g3 : mM} {M : tM} {v1 v2 v3 : Nat} (hD : DR f g M) (h0 : M 0 3 < 3) (hv1 : v1 < M 0 2) (hv2 : v2 < M 0 0) (hv3 : v3 < M 0 0) (hv : v3 ≠ v2) (xc : ∀ c, 13 ≤ c → c ≤ 21 → f3 c = f c) (z7 : ∀ j, g3 7 j = if j = 9 + 3 * M 0 3 + 2 then nI v3 else if j = 9 + 3 * M 0 3 + 1 then nI v2 else if j = 9 + 3 * M 0 3 then nI v1 else g 7 j) (zc : ∀ c, 2 ≤ c → c ≤ 6 → g3 c = g c) (z0 : ∀ k, 19 ≤ k → k ≠ 22 → g3 0 k = g 0 k) (z22 : g3 0 22 = nI (M 0 3 + 1)) : DR (st2 (st2 (st2 (st2 f3 19 (M 0 3) (nI v1)) 20 (M 0 3) (nI v2)) 21 (M 0 3) (nI v3)) 13 3 (nI (M 0 3 + 1))) g3 (adE M v1 v2 v3) := by
  obtain ⟨hw, d1, d2, d3, d4, d5⟩ := hD
  have p3 : adE M v1 v2 v3 0 3 = M 0 3 + 1 := rfl
  have p0 : adE M v1 v2 v3 0 0 = M 0 0 := rfl
  have p1 : adE M v1 v2 v3 0 1 = M 0 1 := rfl
  have p2 : adE M v1 v2 v3 0 2 = M 0 2 := rfl
  have o := fun (c j : Nat) (h : c ≠ 0) (h2 : c ≠ 6 ∧ c ≠ 7 ∧ c ≠ 8 ∨ j ≠ M 0 3) => adE_o (M := M) (a := v1) (b := v2) (l := v3) (c := c) (j := j) h h2
  have x13 := xc 13 (by decide) (by decide)
  refine ⟨⟨?_, fun k hk => ?_, fun k hk => ?_, fun k hk => ?_⟩, ?_, ?_, fun k hk => ?_, fun k hk => ?_, fun k hk => ?_⟩
  · rw [p0, p1, p2, p3]; have := hw.1; omega
  · rw [p0, o 1 k (by decide) (Or.inl (by decide)), o 2 k (by decide) (Or.inl (by decide))]
    exact hw.2.1 k hk
  · rw [o 4 k (by decide) (Or.inl (by decide)), o 5 k (by decide) (Or.inl (by decide))]
    exact hw.2.2.1 k hk
  · rw [p3] at hk
    rw [p2, p0]
    by_cases e : k = M 0 3
    · subst e; rw [adE6, adE7, adE8]; omega
    · rw [o 6 k (by decide) (Or.inr e), o 7 k (by decide) (Or.inr e), o 8 k (by decide) (Or.inr e)]
      exact hw.2.2.2 k (by omega)
  · rw [p0, p1, p2, p3, st2_e, st2_k (by decide), st2_k (by decide), st2_k (by decide), st2_c (by decide), st2_c (by decide), st2_c (by decide), x13]
    exact ⟨d1.1, d1.2.1, d1.2.2.1, rfl⟩
  · rw [p0, p1, p2, p3, z0 19 (by decide) (by decide), z0 20 (by decide) (by decide), z0 21 (by decide) (by decide), z22]
    exact ⟨d2.1, d2.2.1, d2.2.2.1, rfl⟩
  · rw [o 1 k (by decide) (Or.inl (by decide)), o 2 k (by decide) (Or.inl (by decide)), o 3 k (by decide) (Or.inl (by decide)), st2_c (by decide), st2_c (by decide), st2_c (by decide), st2_c (by decide), st2_c (by decide), st2_c (by decide), st2_c (by decide), st2_c (by decide), st2_c (by decide), st2_c (by decide), st2_c (by decide), st2_c (by decide), xc 14 (by decide) (by decide), xc 15 (by decide) (by decide), xc 16 (by decide) (by decide), zc 2 (by decide) (by decide), zc 3 (by decide) (by decide), zc 4 (by decide) (by decide)]
    exact d3 k hk
  · rw [o 4 k (by decide) (Or.inl (by decide)), o 5 k (by decide) (Or.inl (by decide)), st2_c (by decide), st2_c (by decide), st2_c (by decide), st2_c (by decide), st2_c (by decide), st2_c (by decide), st2_c (by decide), st2_c (by decide), xc 17 (by decide) (by decide), xc 18 (by decide) (by decide), zc 5 (by decide) (by decide), zc 6 (by decide) (by decide)]
    exact d4 k hk
  · rw [p3] at hk
    have y19 : st2 (st2 (st2 (st2 f3 19 (M 0 3) (nI v1)) 20 (M 0 3) (nI v2)) 21 (M 0 3) (nI v3)) 13 3 (nI (M 0 3 + 1)) 19 = st2 f3 19 (M 0 3) (nI v1) 19 := by rw [st2_c (by decide), st2_c (by decide), st2_c (by decide)]
    have y20 : st2 (st2 (st2 (st2 f3 19 (M 0 3) (nI v1)) 20 (M 0 3) (nI v2)) 21 (M 0 3) (nI v3)) 13 3 (nI (M 0 3 + 1)) 20 = st2 (st2 f3 19 (M 0 3) (nI v1)) 20 (M 0 3) (nI v2) 20 := by rw [st2_c (by decide), st2_c (by decide)]
    have y21 : st2 (st2 (st2 (st2 f3 19 (M 0 3) (nI v1)) 20 (M 0 3) (nI v2)) 21 (M 0 3) (nI v3)) 13 3 (nI (M 0 3 + 1)) 21 = st2 (st2 (st2 f3 19 (M 0 3) (nI v1)) 20 (M 0 3) (nI v2)) 21 (M 0 3) (nI v3) 21 := by rw [st2_c (by decide)]
    rw [y19, y20, y21, z7, z7, z7]
    by_cases e : k = M 0 3
    · subst e
      rw [adE6, adE7, adE8, st2_e, st2_e, st2_e, if_neg (by omega), if_neg (by omega), if_pos rfl, if_neg (by omega), if_pos rfl, if_pos rfl]
      exact ⟨rfl, rfl, rfl, rfl, rfl, rfl⟩
    · rw [o 6 k (by decide) (Or.inr e), o 7 k (by decide) (Or.inr e), o 8 k (by decide) (Or.inr e), st2_k e, st2_k e, st2_k e, st2_c (c := 20) (by decide), st2_c (c := 19) (by decide), st2_c (c := 19) (by decide), xc 19 (by decide) (by decide), xc 20 (by decide) (by decide), xc 21 (by decide) (by decide)]
      have hk2 : k < M 0 3 := by omega
      rw [if_neg (by omega), if_neg (by omega), if_neg (by omega), if_neg (by omega), if_neg (by omega), if_neg (by omega), if_neg (by omega), if_neg (by omega), if_neg (by omega)]
      exact d5 k hk2
theorem n93 (k : Nat) : (9 : Int32) + 3 * nI k = nI (9 + 3 * k) := by rw [nI_3]; exact nI_add 9 (3 * k)
theorem it_errand {N L : Nat} {B : Nat → Nat} {i : Nat} {f g : mM} {M : tM} (hB : TxB L B) (hN : 1000 ≤ N) (hJ : J N L B i f g) (hD : DR f g M) (h0 : M 0 3 < 3) : IO N L B i 7 f g := by
  obtain ⟨hw, d1, d2, d3, d4, d5⟩ := id hD
  have hw1 := hw.1
  have k0 : ¬ nI 7 = 4 := by decide
  have k1 : ¬ nI 7 = 5 := by decide
  have k2 : ¬ nI 7 = 6 := by decide
  have r0 : ¬ nI (7 - 4) = 0 := by decide
  have r1 : ¬ nI (7 - 4) = 1 := by decide
  have r2 : ¬ nI (7 - 4) = 2 := by decide
  have t7 : ∀ j, 9 ≤ j → tG 7 j := fun j hj => Or.inr (Or.inl ⟨Or.inr (Or.inr (Or.inr rfl)), hj⟩)
  have t8 : tG 0 8 := Or.inl ⟨rfl, Or.inl ⟨by decide, by decide⟩⟩
  have t22 : tG 0 22 := Or.inl ⟨rfl, Or.inr ⟨by decide, by decide⟩⟩
  have m1 : nI (9 + 3 * M 0 3) + 1 = nI (9 + 3 * M 0 3 + 1) := nI_1 _
  have m2 : nI (9 + 3 * M 0 3) + 2 = nI (9 + 3 * M 0 3 + 2) := nI_add _ 2
  rcases num2 hB hN hJ (x := 0) (by decide) 0 (nI (M 0 2) - 1) with ⟨f1, g1, b1, v1, a1, a2, a3, a4, a5, a6, a7, a8, a9, a10, a11⟩ | ⟨f1, s, a1, a2, a3, a4, a5⟩
  · have u1 : v1 < M 0 2 := le_m1 a9 (by omega) a11
    have e19 : st2 g1 7 (9 + 3 * M 0 3) (nI v1) 0 19 = nI (M 0 0) := by rw [st2_c (by decide), a6.2 19 (by decide)]; exact d2.1
    have e22 : st2 g1 7 (9 + 3 * M 0 3) (nI v1) 0 22 = nI (M 0 3) := by rw [st2_c (by decide), a6.2 22 (by decide)]; exact d2.2.2.2
    rcases num2 hB hN (a7.stA (c := 7) (k := 9 + 3 * M 0 3) (x := nI v1) (by decide)) (x := 1) (by decide) 0 (nI (M 0 0) - 1) with ⟨f2, g2, b2, v2, c1, c2, c3, c4, c5, c6, c7, c8, c9, c10, c11⟩ | ⟨f2, s, c1, c2, c3, c4, c5⟩
    · have u2 : v2 < M 0 0 := le_m1 c9 (by omega) c11
      have e19b : st2 g2 7 (9 + 3 * M 0 3 + 1) (nI v2) 0 19 = nI (M 0 0) := by rw [st2_c (by decide), c6.2 19 (by decide)]; exact e19
      have e22b : st2 g2 7 (9 + 3 * M 0 3 + 1) (nI v2) 0 22 = nI (M 0 3) := by rw [st2_c (by decide), c6.2 22 (by decide)]; exact e22
      rcases unl2 hB hN (c7.stA (c := 7) (k := 9 + 3 * M 0 3 + 1) (x := nI v2) (by decide)) (x := 2) (y := 1) (by decide) (by decide) c9 c4 e19b with ⟨f3, g3, b3, v3, q1, q0, q2, q3, q4, q5, q6, q7, q8, q9, q10, q11, q12⟩ | ⟨f3, s, q2, q3, q4, q5, q6⟩
      · left
        have u3 : v3 < M 0 0 := le_m1 q9 (by omega) q11
        have e22c : st2 g3 7 (9 + 3 * M 0 3 + 2) (nI v3) 0 22 = nI (M 0 3) := by rw [st2_c (by decide), q6.2 22 (by decide)]; exact e22b
        refine ⟨f3, st2 (st2 g3 7 (9 + 3 * M 0 3 + 2) (nI v3)) 0 22 (nI (M 0 3 + 1)), b3, ?_, fun c h1 h2 => (q2 c h1 h2).trans ((c2 c h1 h2).trans (a2 c h1 h2)), ?_, ((((((FG.rf.ag a6).st (t7 _ (by omega))).ag c6).st (t7 _ (by omega))).ag q6).st (t7 _ (by omega))).st t22, (q7.stA (by decide)).st0 (by decide), by omega, fun f4 g4 e1 hA => ?_⟩
        · unfold q_X4_readNumbers
          simp only [sq]
          rw [d1.1, d1.2.2.1, if_neg k0, if_neg k1, if_neg k2, show nI 7 = 7 from rfl, if_pos rfl, show q_X4_readNumber N 0 0 (nI (M 0 2) - 1) f = some (1, f1) from a1, bi2_some, if_neg z10, show q_X4_readNumber N 1 0 (nI (M 0 0) - 1) f1 = some (1, f2) from c1, bi2_some, if_neg z10, show q_X4_readNumber N 2 0 (nI (M 0 0) - 1) f2 = some (1, f3) from q1, bi2_some, if_neg z10, gi_lit _ (by decide), gi_lit _ (by decide), show Int32.toNatClampNeg 2 = 2 from by decide, show Int32.toNatClampNeg 1 = 1 from by decide, if_neg q0, rz1]
        · unfold q_X10_readsItem
          rw [if_neg r0, if_neg r1, if_neg r2]
          simp only [sq]
          rw [d2.2.2.2, n93, d2.2.2.1, a5, bi2_some, gi_in _ (by omega) (by decide), cl_nI (by omega), e19, c5, bi2_some, m1, gi_in _ (by omega) (by decide), cl_nI (by omega), q5, bi2_some, m2, gi_in _ (by omega) (by decide), cl_nI (by omega), e22c, nI_1]
        · have xc : ∀ c, 13 ≤ c → c ≤ 21 → f4 c = f c := fun c h1 h2 => (e1 c (by omega)).trans ((q2 c (by omega) (by omega)).trans ((c2 c (by omega) (by omega)).trans (a2 c (by omega) (by omega))))
          have x0 : f4 22 0 = nI v1 := by rw [e1 22 (by decide), q3 0 (by decide), c3 0 (by decide)]; exact a4
          have x1 : f4 22 1 = nI v2 := by rw [e1 22 (by decide), q3 1 (by decide)]; exact c4
          have x2 : f4 22 2 = nI v3 := by rw [e1 22 (by decide)]; exact q4
          have z7 : g4 7 = st2 g3 7 (9 + 3 * M 0 3 + 2) (nI v3) 7 := by rw [hA.1 7 (by decide), st2_c (by decide)]
          have z7b : g3 7 = st2 g2 7 (9 + 3 * M 0 3 + 1) (nI v2) 7 := q6.1 7 (by decide)
          have z7c : g2 7 = st2 g1 7 (9 + 3 * M 0 3) (nI v1) 7 := c6.1 7 (by decide)
          refine ⟨_, _, adF_errand h0 d1.2.2.2 (xc 13 (by decide) (by decide)) x0 x1 x2, fun c hc => by rw [st2_c (by omega), st2_c (by omega), st2_c (by omega), st2_c (by omega)], DR_errand hD h0 u1 u2 u3 q12 xc (fun j => ?_) (fun c h1 h2 => ?_) (fun k h1 h2 => ?_) ?_⟩
          · rw [z7, st2_at, z7b, st2_at, z7c, st2_at, a6.1 7 (by decide)]; simp
          · rw [hA.1 c (by omega), st2_c (by omega), st2_c (by omega), q6.1 c (by omega), st2_c (by omega), c6.1 c (by omega), st2_c (by omega), a6.1 c (by omega)]
          · rw [hA.2 k (by omega), st2_k h2, st2_c (by decide), q6.2 k (by omega), st2_c (by decide), c6.2 k (by omega), st2_c (by decide), a6.2 k (by omega)]
          · rw [hA.2 22 (by decide), st2_e]
      · right
        have w22 : st2 (st2 (st2 g2 7 (9 + 3 * M 0 3 + 1) (nI v2)) 0 8 (nI s)) 7 (9 + 3 * M 0 3 + 2) 0 0 22 = nI (M 0 3) := by rw [st2_c (by decide), st2_k (by decide)]; exact e22b
        refine ⟨f3, st2 (st2 (st2 (st2 g2 7 (9 + 3 * M 0 3 + 1) (nI v2)) 0 8 (nI s)) 7 (9 + 3 * M 0 3 + 2) 0) 0 22 (nI (M 0 3 + 1)), s, ?_, fun c h1 h2 => (q2 c h1 h2).trans ((c2 c h1 h2).trans (a2 c h1 h2)), q3, q4, ?_, ((((((FG.rf.ag a6).st (t7 _ (by omega))).ag c6).st (t7 _ (by omega))).st t8).st (t7 _ (by omega))).st t22, by rw [st2_k (by decide), st2_c (by decide), st2_e]⟩
        · unfold q_X4_readNumbers
          simp only [sq]
          rw [d1.1, d1.2.2.1, if_neg k0, if_neg k1, if_neg k2, show nI 7 = 7 from rfl, if_pos rfl, show q_X4_readNumber N 0 0 (nI (M 0 2) - 1) f = some (1, f1) from a1, bi2_some, if_neg z10, show q_X4_readNumber N 1 0 (nI (M 0 0) - 1) f1 = some (1, f2) from c1, bi2_some, if_neg z10]
          rcases q6 with q6 | ⟨q6, q7⟩
          · rw [show q_X4_readNumber N 2 0 (nI (M 0 0) - 1) f2 = some (0, f3) from q6, bi2_some, if_pos rfl, rz0]
          · rw [show q_X4_readNumber N 2 0 (nI (M 0 0) - 1) f2 = some (1, f3) from q6, bi2_some, if_neg z10, gi_lit _ (by decide), gi_lit _ (by decide), show Int32.toNatClampNeg 2 = 2 from by decide, show Int32.toNatClampNeg 1 = 1 from by decide, if_pos q7, rz0]
        · unfold q_X10_readsItem
          rw [if_neg r0, if_neg r1, if_neg r2]
          simp only [sq]
          rw [d2.2.2.2, n93, d2.2.2.1, a5, bi2_some, gi_in _ (by omega) (by decide), cl_nI (by omega), e19, c5, bi2_some, m1, gi_in _ (by omega) (by decide), cl_nI (by omega), q5, bi2_some, m2, gi_in _ (by omega) (by decide), cl_nI (by omega), w22, nI_1]
    · right
      have w8 : st2 (st2 (st2 g1 7 (9 + 3 * M 0 3) (nI v1)) 0 8 (nI s)) 7 (9 + 3 * M 0 3 + 1) 0 0 8 = nI s := by rw [st2_c (by decide), st2_e]
      have w22 : st2 (st2 (st2 (st2 g1 7 (9 + 3 * M 0 3) (nI v1)) 0 8 (nI s)) 7 (9 + 3 * M 0 3 + 1) 0) 7 (9 + 3 * M 0 3 + 2) 0 0 22 = nI (M 0 3) := by rw [st2_c (by decide), st2_c (by decide), st2_k (by decide)]; exact e22
      refine ⟨f2, st2 (st2 (st2 (st2 (st2 g1 7 (9 + 3 * M 0 3) (nI v1)) 0 8 (nI s)) 7 (9 + 3 * M 0 3 + 1) 0) 7 (9 + 3 * M 0 3 + 2) 0) 0 22 (nI (M 0 3 + 1)), s, ?_, fun c h1 h2 => (c2 c h1).trans (a2 c h1 h2), c3, c4, ?_, (((((FG.rf.ag a6).st (t7 _ (by omega))).st t8).st (t7 _ (by omega))).st (t7 _ (by omega))).st t22, by rw [st2_k (by decide), st2_c (by decide)]; exact w8⟩
      · unfold q_X4_readNumbers
        simp only [sq]
        rw [d1.1, d1.2.2.1, if_neg k0, if_neg k1, if_neg k2, show nI 7 = 7 from rfl, if_pos rfl, show q_X4_readNumber N 0 0 (nI (M 0 2) - 1) f = some (1, f1) from a1, bi2_some, if_neg z10, show q_X4_readNumber N 1 0 (nI (M 0 0) - 1) f1 = some (0, f2) from c1, bi2_some, if_pos rfl, rz0]
      · unfold q_X10_readsItem
        rw [if_neg r0, if_neg r1, if_neg r2]
        simp only [sq]
        rw [d2.2.2.2, n93, d2.2.2.1, a5, bi2_some, gi_in _ (by omega) (by decide), cl_nI (by omega), e19, c5, bi2_some, m1, gi_in _ (by omega) (by decide), cl_nI (by omega), unlike_dead w8 c4, bi2_some, m2, gi_in _ (by omega) (by decide), cl_nI (by omega), w22, nI_1]
  · right
    have w8a : st2 (st2 g 0 8 (nI s)) 7 (9 + 3 * M 0 3) 0 0 8 = nI s := by rw [st2_c (by decide), st2_e]
    have w8b : st2 (st2 (st2 g 0 8 (nI s)) 7 (9 + 3 * M 0 3) 0) 7 (9 + 3 * M 0 3 + 1) 0 0 8 = nI s := by rw [st2_c (by decide)]; exact w8a
    have w22 : st2 (st2 (st2 (st2 g 0 8 (nI s)) 7 (9 + 3 * M 0 3) 0) 7 (9 + 3 * M 0 3 + 1) 0) 7 (9 + 3 * M 0 3 + 2) 0 0 22 = nI (M 0 3) := by rw [st2_c (by decide), st2_c (by decide), st2_c (by decide), st2_k (by decide)]; exact d2.2.2.2
    refine ⟨f1, st2 (st2 (st2 (st2 (st2 g 0 8 (nI s)) 7 (9 + 3 * M 0 3) 0) 7 (9 + 3 * M 0 3 + 1) 0) 7 (9 + 3 * M 0 3 + 2) 0) 0 22 (nI (M 0 3 + 1)), s, ?_, fun c h1 h2 => a2 c h1, a3, a4, ?_, ((((FG.rf.st t8).st (t7 _ (by omega))).st (t7 _ (by omega))).st (t7 _ (by omega))).st t22, by rw [st2_k (by decide), st2_c (by decide)]; exact w8b⟩
    · unfold q_X4_readNumbers
      simp only [sq]
      rw [d1.1, d1.2.2.1, if_neg k0, if_neg k1, if_neg k2, show nI 7 = 7 from rfl, if_pos rfl, show q_X4_readNumber N 0 0 (nI (M 0 2) - 1) f = some (0, f1) from a1, bi2_some, if_pos rfl, rz0]
    · unfold q_X10_readsItem
      rw [if_neg r0, if_neg r1, if_neg r2]
      simp only [sq]
      rw [d2.2.2.2, n93, d2.2.2.1, a5, bi2_some, gi_in _ (by omega) (by decide), cl_nI (by omega), number_dead w8a a4, bi2_some, m1, gi_in _ (by omega) (by decide), cl_nI (by omega), unlike_dead w8b a4, bi2_some, m2, gi_in _ (by omega) (by decide), cl_nI (by omega), w22, nI_1]
