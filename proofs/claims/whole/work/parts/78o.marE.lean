/-! the four items -/
theorem n9 (k : Nat) : (9 : Int32) + nI k = nI (9 + k) := nI_add 9 k
theorem n4 (k : Nat) : (4 : Int32) + nI k = nI (4 + k) := nI_add 4 k
theorem g22 {f f' : mM} {c : Nat} (h : ∀ c, c ≠ 12 → c ≠ 22 → f' c = f c) (h1 : c ≠ 12) (h2 : c ≠ 22) : f' c = f c := h c h1 h2
theorem le_m1 {v P : Nat} (hv : v ≤ 99) (hP : P ≤ 99) (h : nI v ≤ nI P - 1) : v < P := by
  rw [i_le, nI_m1 (by omega), nI_toInt (by omega)] at h
  omega
def adM (M : tM) (n : Nat) : tM := fun c j => if c = 0 ∧ j = 0 then n else M c j
theorem it_marsh {N L : Nat} {B : Nat → Nat} {i : Nat} {f g : mM} {M : tM} (hB : TxB L B) (hN : 1000 ≤ N) (hJ : J N L B i f g) (hD : DR f g M) (h0 : M 0 1 = 0 ∧ M 0 2 = 0 ∧ M 0 3 = 0) : IO N L B i 4 f g := by
  obtain ⟨hw, d1, d2, d3, d4, d5⟩ := hD
  rcases num2 hB hN hJ (x := 0) (by decide) 2 6 with ⟨f1, g1, b1, v1, a1, a2, a3, a4, a5, a6, a7, a8, a9, a10, a11⟩ | ⟨f1, s, a1, a2, a3, a4, a5⟩
  · left
    have v2 : 2 ≤ v1 := (nI_leI (a := 2) (by omega) (by omega)).mp a10
    have v6 : v1 ≤ 6 := (nI_leI (b := 6) (by omega) (by omega)).mp a11
    refine ⟨f1, st2 g1 0 19 (nI v1), b1, ?_, a2, ?_, (FG.rf.ag a6).st (Or.inl ⟨rfl, Or.inr ⟨by decide, by decide⟩⟩), a7.st0 (by decide), a8, fun f2 g2 e1 hA => ?_⟩
    · unfold q_X4_readNumbers
      simp only [sq]
      rw [show nI 4 = 4 from rfl, if_pos rfl, show q_X4_readNumber N 0 2 6 f = some (1, f1) from a1, bi2_some, rz1]
    · unfold q_X10_readsItem
      rw [show nI (4 - 4) = 0 from rfl, if_pos rfl, a5, bi2_some, wellG (by rw [a6.2 8 (by decide)]; exact hJ.2.2.1), bi_some]
      simp only [sq]
      rw [if_neg z10]
    · refine ⟨st2 f2 13 0 (nI v1), adM M v1, ?_, fun c hc => st2_c (by omega), ?_⟩
      · unfold q_X4_addItem
        rw [show nI 4 = 4 from rfl, if_pos rfl, gi_lit _ (by decide), show Int32.toNatClampNeg 0 = 0 from by decide, e1 22 (by decide), a4]
        rfl
      · have q0 : adM M v1 0 0 = v1 := rfl
        have q1 : adM M v1 0 1 = 0 := h0.1
        have q2 : adM M v1 0 2 = 0 := h0.2.1
        have q3 : adM M v1 0 3 = 0 := h0.2.2
        refine ⟨?_, ?_, ?_, fun k hk => ?_, fun k hk => ?_, fun k hk => ?_⟩
        · refine ⟨?_, fun k hk => ?_, fun k hk => ?_, fun k hk => ?_⟩
          · rw [q0, q1, q2, q3]; omega
          · rw [q1] at hk; omega
          · rw [q2] at hk; omega
          · rw [q3] at hk; omega
        · rw [q0, q1, q2, q3, st2_e, st2_k (by decide), st2_k (by decide), st2_k (by decide), e1 13 (by decide), a2 13 (by decide) (by decide), d1.2.1, d1.2.2.1, d1.2.2.2, h0.1, h0.2.1, h0.2.2]
          exact ⟨rfl, rfl, rfl, rfl⟩
        · rw [q0, q1, q2, q3, hA.2 19 (by decide), hA.2 20 (by decide), hA.2 21 (by decide), hA.2 22 (by decide), st2_e, st2_k (by decide), st2_k (by decide), st2_k (by decide), a6.2 20 (by decide), a6.2 21 (by decide), a6.2 22 (by decide), d2.2.1, d2.2.2.1, d2.2.2.2, h0.1, h0.2.1, h0.2.2]
          exact ⟨rfl, rfl, rfl, rfl⟩
        · rw [q1] at hk; omega
        · rw [q2] at hk; omega
        · rw [q3] at hk; omega
  · right
    refine ⟨f1, st2 (st2 g 0 8 (nI s)) 0 19 (st2 g 0 8 (nI s) 0 19), s, ?_, fun c c1 _ => a2 c c1, a3, a4, ?_, (FG.rf.st (Or.inl ⟨rfl, Or.inl ⟨by decide, by decide⟩⟩)).st (Or.inl ⟨rfl, Or.inr ⟨by decide, by decide⟩⟩), by rw [st2_k (by decide)]; exact st2_e⟩
    · unfold q_X4_readNumbers
      simp only [sq]
      rw [show nI 4 = 4 from rfl, if_pos rfl, show q_X4_readNumber N 0 2 6 f = some (0, f1) from a1, bi2_some]
      exact rz0 _
    · unfold q_X10_readsItem
      rw [show nI (4 - 4) = 0 from rfl, if_pos rfl, a5, bi2_some, deadG st2_e a4, bi_some]
      simp only [sq]
      rw [if_pos trivial]
def adR (M : tM) (w s : Nat) : tM := fun c j => if c = 0 then (if j = 2 then M 0 2 + 1 else M 0 j) else if j = M 0 2 then (if c = 4 then w else if c = 5 then s else M c j) else M c j
theorem adR_o {M : tM} {w s c j : Nat} (h : c ≠ 0) (h2 : c ≠ 4 ∧ c ≠ 5 ∨ j ≠ M 0 2) : adR M w s c j = M c j := by
  unfold adR
  rw [if_neg h]
  by_cases e : j = M 0 2
  · rw [if_pos e, if_neg (by omega), if_neg (by omega)]
  · rw [if_neg e]
theorem adR4 {M : tM} {w s : Nat} : adR M w s 4 (M 0 2) = w := by simp [adR]
theorem adR5 {M : tM} {w s : Nat} : adR M w s 5 (M 0 2) = s := by simp [adR]
theorem it_person {N L : Nat} {B : Nat → Nat} {i : Nat} {f g : mM} {M : tM} (hB : TxB L B) (hN : 1000 ≤ N) (hJ : J N L B i f g) (hD : DR f g M) (h0 : M 0 2 < 4) : IO N L B i 6 f g := by
  obtain ⟨hw, d1, d2, d3, d4, d5⟩ := hD
  have k60 : ¬ nI 6 = 4 := by decide
  have k61 : ¬ nI 6 = 5 := by decide
  have r0 : ¬ nI (6 - 4) = 0 := by decide
  have r1 : ¬ nI (6 - 4) = 1 := by decide
  have t5 : tG 5 (4 + M 0 2) := Or.inr (Or.inr ⟨Or.inl rfl, by omega⟩)
  have t6 : tG 6 (4 + M 0 2) := Or.inr (Or.inr ⟨Or.inr rfl, by omega⟩)
  have t8 : tG 0 8 := Or.inl ⟨rfl, Or.inl ⟨by decide, by decide⟩⟩
  have t21 : tG 0 21 := Or.inl ⟨rfl, Or.inr ⟨by decide, by decide⟩⟩
  rcases num2 hB hN hJ (x := 0) (by decide) 1 3 with ⟨f1, g1, b1, v1, a1, a2, a3, a4, a5, a6, a7, a8, a9, a10, a11⟩ | ⟨f1, s, a1, a2, a3, a4, a5⟩
  · have u1 : 1 ≤ v1 := (nI_leI (a := 1) (by omega) (by omega)).mp a10
    have u3 : v1 ≤ 3 := (nI_leI (b := 3) (by omega) (by omega)).mp a11
    have e21 : st2 g1 5 (4 + M 0 2) (nI v1) 0 21 = nI (M 0 2) := by rw [st2_c (by decide), a6.2 21 (by decide)]; exact d2.2.2.1
    rcases num2 hB hN (a7.stA (c := 5) (k := 4 + M 0 2) (x := nI v1) (by decide)) (x := 1) (by decide) 1 2 with ⟨f2, g2, b2, v2, c1, c2, c3, c4, c5, c6, c7, c8, c9, c10, c11⟩ | ⟨f2, s, c1, c2, c3, c4, c5⟩
    · left
      have w1 : 1 ≤ v2 := (nI_leI (a := 1) (by omega) (by omega)).mp c10
      have w2 : v2 ≤ 2 := (nI_leI (b := 2) (by omega) (by omega)).mp c11
      have e21' : st2 g2 6 (4 + M 0 2) (nI v2) 0 21 = nI (M 0 2) := by rw [st2_c (by decide), c6.2 21 (by decide)]; exact e21
      refine ⟨f2, st2 (st2 g2 6 (4 + M 0 2) (nI v2)) 0 21 (nI (M 0 2 + 1)), b2, ?_, fun c h1 h2 => (c2 c h1 h2).trans (a2 c h1 h2), ?_, ((((FG.rf.ag a6).st t5).ag c6).st t6).st t21, (c7.stA (by decide)).st0 (by decide), by omega, fun f3 g3 e1 hA => ?_⟩
      · unfold q_X4_readNumbers
        simp only [sq]
        rw [if_neg k60, if_neg k61, show nI 6 = 6 from rfl, if_pos rfl, show q_X4_readNumber N 0 1 3 f = some (1, f1) from a1, bi2_some, if_neg z10, show q_X4_readNumber N 1 1 2 f1 = some (1, f2) from c1, bi2_some, if_neg z10, rz1]
      · unfold q_X10_readsItem
        rw [if_neg r0, if_neg r1, show nI (6 - 4) = 2 from rfl, if_pos rfl, a5, bi2_some]
        simp only [sq]
        rw [d2.2.2.1, n4, gi_in _ (by omega) (by decide), cl_nI (by omega), c5, bi2_some, e21, n4, gi_in _ (by omega) (by decide), cl_nI (by omega), e21', nI_1]
      · have x13 : f3 13 = f 13 := (e1 13 (by decide)).trans ((c2 13 (by decide) (by decide)).trans (a2 13 (by decide) (by decide)))
        have xc : ∀ c, 14 ≤ c → c ≤ 21 → f3 c = f c := fun c h1 h2 => (e1 c (by omega)).trans ((c2 c (by omega) (by omega)).trans (a2 c (by omega) (by omega)))
        have x0 : f3 22 0 = nI v1 := by rw [e1 22 (by decide), c3 0 (by decide)]; exact a4
        have x1 : f3 22 1 = nI v2 := by rw [e1 22 (by decide)]; exact c4
        refine ⟨st2 (st2 (st2 f3 17 (M 0 2) (nI v1)) 18 (M 0 2) (nI v2)) 13 2 (nI (M 0 2 + 1)), adR M v1 v2, ?_, fun c hc => by rw [st2_c (by omega), st2_c (by omega), st2_c (by omega)], ?_⟩
        · unfold q_X4_addItem
          rw [if_neg k60, if_neg k61, show nI 6 = 6 from rfl, if_pos rfl, gi_lit _ (by decide), gi_lit _ (by decide), show Int32.toNatClampNeg 0 = 0 from by decide, show Int32.toNatClampNeg 1 = 1 from by decide, x0, x1]
          unfold q_X2_addPerson
          have y1 : st2 f3 17 (M 0 2) (nI v1) 13 2 = nI (M 0 2) := by rw [st2_c (by decide), x13]; exact d1.2.2.1
          have y2 : st2 (st2 f3 17 (M 0 2) (nI v1)) 18 (M 0 2) (nI v2) 13 2 = nI (M 0 2) := by rw [st2_c (by decide)]; exact y1
          simp only [sq]
          rw [x13, d1.2.2.1, if_neg (show ¬ (4 : Int32) ≤ nI (M 0 2) from nI_ge (b := 4) h0 (by decide)), gi_in _ h0 (by decide), cl_nI (by omega), y1, gi_in _ h0 (by decide), cl_nI (by omega), y2, nI_1, bi_some]
        · have p2 : adR M v1 v2 0 2 = M 0 2 + 1 := rfl
          have p0 : adR M v1 v2 0 0 = M 0 0 := rfl
          have p1 : adR M v1 v2 0 1 = M 0 1 := rfl
          have p3 : adR M v1 v2 0 3 = M 0 3 := rfl
          have o := fun (c j : Nat) (h : c ≠ 0) (h2 : c ≠ 4 ∧ c ≠ 5 ∨ j ≠ M 0 2) => adR_o (M := M) (w := v1) (s := v2) (c := c) (j := j) h h2
          have z5 : g3 5 = st2 g1 5 (4 + M 0 2) (nI v1) 5 := by rw [hA.1 5 (by decide), st2_c (by decide), st2_c (by decide), c6.1 5 (by decide)]
          have z6 : g3 6 = st2 g2 6 (4 + M 0 2) (nI v2) 6 := by rw [hA.1 6 (by decide), st2_c (by decide)]
          have z6b : g2 6 = g 6 := by rw [c6.1 6 (by decide), st2_c (by decide), a6.1 6 (by decide)]
          have zc : ∀ c, c ≠ 0 → c ≠ 5 → c ≠ 6 → g3 c = g c := fun c h0 h5 h6 => by rw [hA.1 c h0, st2_c h0, st2_c h6, c6.1 c h0, st2_c h5, a6.1 c h0]
          have z0 : ∀ k, 19 ≤ k → k ≠ 21 → g3 0 k = g 0 k := fun k h1 h2 => by rw [hA.2 k (by omega), st2_k h2, st2_c (by decide), c6.2 k (by omega), st2_c (by decide), a6.2 k (by omega)]
          have z21 : g3 0 21 = nI (M 0 2 + 1) := by rw [hA.2 21 (by decide), st2_e]
          refine ⟨⟨?_, fun k hk => ?_, fun k hk => ?_, fun k hk => ?_⟩, ?_, ?_, fun k hk => ?_, fun k hk => ?_, fun k hk => ?_⟩
          · rw [p0, p1, p2, p3]; have := hw.1; omega
          · rw [p0, o 1 k (by decide) (Or.inl (by decide)), o 2 k (by decide) (Or.inl (by decide))]
            exact hw.2.1 k hk
          · rw [p2] at hk
            by_cases e : k = M 0 2
            · subst e; rw [adR4, adR5]; omega
            · rw [o 4 k (by decide) (Or.inr e), o 5 k (by decide) (Or.inr e)]
              exact hw.2.2.1 k (by omega)
          · rw [p2, p0, o 6 k (by decide) (Or.inl (by decide)), o 7 k (by decide) (Or.inl (by decide)), o 8 k (by decide) (Or.inl (by decide))]
            have := hw.2.2.2 k hk
            omega
          · rw [p0, p1, p2, p3, st2_k (by decide), st2_k (by decide), st2_e, st2_k (by decide), st2_c (by decide), st2_c (by decide), x13]
            exact ⟨d1.1, d1.2.1, rfl, d1.2.2.2⟩
          · rw [p0, p1, p2, p3, z0 19 (by decide) (by decide), z0 20 (by decide) (by decide), z0 22 (by decide) (by decide), z21]
            exact ⟨d2.1, d2.2.1, rfl, d2.2.2.2⟩
          · rw [o 1 k (by decide) (Or.inl (by decide)), o 2 k (by decide) (Or.inl (by decide)), o 3 k (by decide) (Or.inl (by decide)), st2_c (by decide), st2_c (by decide), st2_c (by decide), st2_c (by decide), st2_c (by decide), st2_c (by decide), st2_c (by decide), st2_c (by decide), st2_c (by decide), xc 14 (by decide) (by decide), xc 15 (by decide) (by decide), xc 16 (by decide) (by decide), zc 2 (by decide) (by decide) (by decide), zc 3 (by decide) (by decide) (by decide), zc 4 (by decide) (by decide) (by decide)]
            exact d3 k hk
          · rw [p2] at hk
            have y17 : st2 (st2 (st2 f3 17 (M 0 2) (nI v1)) 18 (M 0 2) (nI v2)) 13 2 (nI (M 0 2 + 1)) 17 = st2 f3 17 (M 0 2) (nI v1) 17 := by rw [st2_c (by decide), st2_c (by decide)]
            have y18 : st2 (st2 (st2 f3 17 (M 0 2) (nI v1)) 18 (M 0 2) (nI v2)) 13 2 (nI (M 0 2 + 1)) 18 = st2 (st2 f3 17 (M 0 2) (nI v1)) 18 (M 0 2) (nI v2) 18 := by rw [st2_c (by decide)]
            rw [y17, y18, z5, z6]
            by_cases e : k = M 0 2
            · subst e
              rw [adR4, adR5, st2_e, st2_e, st2_e, st2_e]
              exact ⟨rfl, rfl, rfl, rfl⟩
            · rw [o 4 k (by decide) (Or.inr e), o 5 k (by decide) (Or.inr e), st2_k e, st2_k e, st2_k (by omega), st2_k (by omega), st2_c (by decide), xc 17 (by decide) (by decide), xc 18 (by decide) (by decide), a6.1 5 (by decide), z6b]
              exact d4 k (by omega)
          · rw [o 6 k (by decide) (Or.inl (by decide)), o 7 k (by decide) (Or.inl (by decide)), o 8 k (by decide) (Or.inl (by decide)), st2_c (by decide), st2_c (by decide), st2_c (by decide), st2_c (by decide), st2_c (by decide), st2_c (by decide), st2_c (by decide), st2_c (by decide), st2_c (by decide), xc 19 (by decide) (by decide), xc 20 (by decide) (by decide), xc 21 (by decide) (by decide), zc 7 (by decide) (by decide) (by decide)]
            exact d5 k hk
    · right
      have q8 : st2 (st2 g1 5 (4 + M 0 2) (nI v1)) 0 8 (nI s) 0 21 = nI (M 0 2) := by rw [st2_k (by decide)]; exact e21
      refine ⟨f2, st2 (st2 (st2 (st2 g1 5 (4 + M 0 2) (nI v1)) 0 8 (nI s)) 6 (4 + M 0 2) 0) 0 21 (nI (M 0 2 + 1)), s, ?_, fun c h1 h2 => (c2 c h1).trans (a2 c h1 h2), c3, c4, ?_, ((((FG.rf.ag a6).st t5).st t8).st t6).st t21, by rw [st2_k (by decide), st2_c (by decide), st2_e]⟩
      · unfold q_X4_readNumbers
        simp only [sq]
        rw [if_neg k60, if_neg k61, show nI 6 = 6 from rfl, if_pos rfl, show q_X4_readNumber N 0 1 3 f = some (1, f1) from a1, bi2_some, if_neg z10, show q_X4_readNumber N 1 1 2 f1 = some (0, f2) from c1, bi2_some, if_pos rfl, rz0]
      · unfold q_X10_readsItem
        rw [if_neg r0, if_neg r1, show nI (6 - 4) = 2 from rfl, if_pos rfl, a5, bi2_some]
        simp only [sq]
        rw [d2.2.2.1, n4, gi_in _ (by omega) (by decide), cl_nI (by omega), c5, bi2_some, e21, n4, gi_in _ (by omega) (by decide), cl_nI (by omega), st2_c (c := 6) (d := 0) (by decide), q8, nI_1]
  · right
    have q8 : st2 (st2 g 0 8 (nI s)) 5 (4 + M 0 2) 0 0 8 = nI s := by rw [st2_c (by decide), st2_e]
    have q21 : st2 (st2 g 0 8 (nI s)) 5 (4 + M 0 2) 0 0 21 = nI (M 0 2) := by rw [st2_c (by decide), st2_k (by decide)]; exact d2.2.2.1
    refine ⟨f1, st2 (st2 (st2 (st2 g 0 8 (nI s)) 5 (4 + M 0 2) 0) 6 (4 + M 0 2) 0) 0 21 (nI (M 0 2 + 1)), s, ?_, fun c h1 h2 => a2 c h1, a3, a4, ?_, (((FG.rf.st t8).st t5).st t6).st t21, by rw [st2_k (by decide), st2_c (by decide)]; exact q8⟩
    · unfold q_X4_readNumbers
      simp only [sq]
      rw [if_neg k60, if_neg k61, show nI 6 = 6 from rfl, if_pos rfl, show q_X4_readNumber N 0 1 3 f = some (0, f1) from a1, bi2_some, if_pos rfl, rz0]
    · unfold q_X10_readsItem
      rw [if_neg r0, if_neg r1, show nI (6 - 4) = 2 from rfl, if_pos rfl, a5, bi2_some]
      simp only [sq]
      rw [d2.2.2.1, n4, gi_in _ (by omega) (by decide), cl_nI (by omega), number_dead q8 a4, bi2_some, q21, n4, gi_in _ (by omega) (by decide), cl_nI (by omega), st2_c (c := 6) (d := 0) (by decide), q21, nI_1]
