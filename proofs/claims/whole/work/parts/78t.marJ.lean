/-! marsh -/
theorem rd0 (N : Nat) (f : mM) : ∃ f3, q_X4_read N f = bi (q_X4_readToken N f3) (fun f4 => bi3 (lp_X4_read_18 N N 0 f4) (fun g20 y21 f22 => if g20 = 0 then some (((-10) - (f22 12 3)), f22) else if g20 = 1 then some (y21, f22) else none)) ∧ (∀ c, c ≠ 12 → c ≠ 13 → f3 c = f c) ∧ f3 12 4 = nI 0 ∧ (f3 13 0 = nI 4 ∧ f3 13 1 = nI 0 ∧ f3 13 2 = nI 0 ∧ f3 13 3 = nI 0) := by
  refine ⟨st2 (st2 (st2 (st2 (st2 f 13 0 4) 13 1 0) 13 2 0) 13 3 0) 12 4 0, rfl, fun c h1 h2 => ?_, st2_e, ?_, ?_, ?_, ?_⟩
  · rw [st2_c h1, st2_c h2, st2_c h2, st2_c h2, st2_c h2]
  · simp [st2_at]; rfl
  · simp [st2_at]; rfl
  · simp [st2_at]; rfl
  · simp [st2_at]; rfl
def mZ (N : Nat) (y32 : Int32) (f33 : mM) : Option (Int32 × mM) := bi (q_X10_isWell f33) (fun y35 => if y35 = 0 then some (((-10) - (f33 0 8)), f33) else sq (st2 f33 0 15 (f33 0 19)) (fun f37 => sq (st2 f37 0 16 (f37 0 20)) (fun f38 => sq (st2 f38 0 17 (f38 0 21)) (fun f39 => sq (st2 f39 0 18 (f39 0 22)) (fun f40 => bi (lp_X10_marsh_244 N y32 N 0 f40) (fun f59 => bi (lp_X10_marsh_342 N y32 N 0 f59) (fun f68 => gi 9 50 (sq (st2 f68 8 (Int32.toNatClampNeg 9) 0) (fun f71 => sq (st2 f71 0 3 0) (fun f72 => gi 0 2 (sq (st2 f72 10 (Int32.toNatClampNeg 0) (vp_nar .boolean 0)) (fun f74 => gi 1 2 (sq (st2 f74 10 (Int32.toNatClampNeg 1) (vp_nar .boolean 0)) (fun f76 => some (y32, f76)))))))))))))))
theorem rg0 (N : Nat) (g : mM) : ∃ g7, q_X10_marsh N g = bi (q_X10_advances N g7) (fun f8 => bi2 (lp_X10_marsh_41 N N 0 f8) (fun y32 f33 => mZ N y32 f33)) ∧ FG (st2 g 0 0 0) g7 ∧ g7 0 8 = -1 ∧ g7 0 4 = nI 0 ∧ (g7 0 19 = nI 4 ∧ g7 0 20 = nI 0 ∧ g7 0 21 = nI 0 ∧ g7 0 22 = nI 0) := by
  have t : ∀ k, 4 ≤ k ∧ k ≤ 8 ∨ 19 ≤ k ∧ k ≤ 22 → tG 0 k := fun k h => Or.inl ⟨rfl, h⟩
  refine ⟨st2 (st2 (st2 (st2 (st2 (st2 (st2 g 0 0 0) 0 8 (-1)) 0 4 0) 0 19 4) 0 20 0) 0 21 0) 0 22 0, rfl, (((((FG.rf.st (t 8 (by decide))).st (t 4 (by decide))).st (t 19 (by decide))).st (t 20 (by decide))).st (t 21 (by decide))).st (t 22 (by decide)), ?_, ?_, ?_, ?_, ?_, ?_⟩
  · simp [st2_at]
  · simp [st2_at]; rfl
  · simp [st2_at]; rfl
  · simp [st2_at]; rfl
  · simp [st2_at]; rfl
  · simp [st2_at]; rfl
theorem mZ_dead {N : Nat} {y : Int32} {g : mM} {s : Nat} (h8 : g 0 8 = nI s) (hs : s ≤ 300) : mZ N y g = some (-10 - nI s, g) := by
  unfold mZ
  rw [deadG h8 hs, bi_some, if_pos rfl, h8]
theorem mZ_ok {N : Nat} (y : Int32) {g : mM} {np : Nat} (hN : 1000 ≤ N) (h8 : g 0 8 = -1) (hp : g 0 20 = nI np) (hp9 : np ≤ 9) : ∃ g', mZ N y g = some (y, g') ∧ (g' 0 15 = g 0 19 ∧ g' 0 16 = g 0 20 ∧ g' 0 17 = g 0 21 ∧ g' 0 18 = g 0 22) ∧ (∀ k, k < 9 → g' 2 k = g 2 (9 + k) ∧ g' 3 k = g 3 (9 + k) ∧ g' 7 k = g 7 (9 + k) ∧ g' 8 k = if k < np then g 4 (9 + k) else 0) ∧ (∀ k, k < 4 → g' 5 k = g 5 (4 + k) ∧ g' 6 k = g 6 (4 + k)) ∧ g' 8 9 = 0 ∧ g' 0 3 = 0 ∧ g' 10 0 = 0 ∧ g' 10 1 = 0 := by
  obtain ⟨g4, e4, q15, q16, q17, q18, qc⟩ : ∃ g4, g4 = st2 (st2 (st2 (st2 g 0 15 (g 0 19)) 0 16 (g 0 20)) 0 17 (g 0 21)) 0 18 (g 0 22) ∧ g4 0 15 = g 0 19 ∧ g4 0 16 = g 0 20 ∧ g4 0 17 = g 0 21 ∧ g4 0 18 = g 0 22 ∧ ∀ c, c ≠ 0 → g4 c = g c := ⟨_, rfl, by simp [st2_at], by simp [st2_at], by simp [st2_at], by simp [st2_at], fun c hc => by rw [st2_c hc, st2_c hc, st2_c hc, st2_c hc]⟩
  obtain ⟨g5, a1, a2, a3⟩ := begG (g := g4) (np := np) (by rw [q16]; exact hp) hp9 y hN
  obtain ⟨g6, b1, b2, b3⟩ := wtG (g := g5) y hN
  have hz : vp_nar .boolean 0 = 0 := rfl
  refine ⟨st2 (st2 (st2 (st2 g6 8 9 0) 0 3 0) 10 0 0) 10 1 0, ?_, ?_, fun k hk => ?_, fun k hk => ?_, ?_, ?_, ?_, ?_⟩
  · unfold mZ
    rw [wellG h8, bi_some, if_neg z10]
    simp only [sq]
    have e2 : st2 g 0 15 (g 0 19) 0 20 = g 0 20 := st2_k (by decide)
    have e3 : st2 (st2 g 0 15 (g 0 19)) 0 16 (g 0 20) 0 21 = g 0 21 := by rw [st2_k (by decide), st2_k (by decide)]
    have e5 : st2 (st2 (st2 g 0 15 (g 0 19)) 0 16 (g 0 20)) 0 17 (g 0 21) 0 22 = g 0 22 := by rw [st2_k (by decide), st2_k (by decide), st2_k (by decide)]
    rw [e2, e3, e5, ← e4, a1, bi_some, b1, bi_some, gi_lit _ (by decide), gi_lit _ (by decide), gi_lit _ (by decide), hz]
    rfl
  · have e0 : ∀ k, k ≠ 3 → st2 (st2 (st2 (st2 g6 8 9 0) 0 3 0) 10 0 0) 10 1 0 0 k = g4 0 k := fun k hk => by rw [st2_c (by decide), st2_c (by decide), st2_k hk, st2_c (by decide), b3 0 (by decide) (by decide), a3 0 (by decide) (by decide) (by decide) (by decide) (by decide)]
    rw [e0 15 (by decide), e0 16 (by decide), e0 17 (by decide), e0 18 (by decide)]
    exact ⟨q15, q16, q17, q18⟩
  · have := a2 k hk
    rw [qc 2 (by decide), qc 3 (by decide), qc 7 (by decide), qc 4 (by decide)] at this
    rw [st2_c (by decide), st2_c (by decide), st2_c (by decide), st2_c (by decide), st2_c (by decide), st2_c (by decide), st2_c (by decide), st2_c (by decide), st2_c (by decide), st2_c (by decide), st2_c (by decide), st2_c (by decide), st2_c (c := 10) (d := 8) (by decide), st2_c (c := 10) (d := 8) (by decide), st2_c (c := 0) (d := 8) (by decide), st2_k (by omega), b3 2 (by decide) (by decide), b3 3 (by decide) (by decide), b3 7 (by decide) (by decide), b3 8 (by decide) (by decide)]
    exact this
  · have := b2 k hk
    rw [st2_c (by decide), st2_c (by decide), st2_c (by decide), st2_c (by decide), st2_c (by decide), st2_c (by decide), st2_c (by decide), st2_c (by decide), this.1, this.2, a3 5 (by decide) (by decide) (by decide) (by decide) (by decide), a3 6 (by decide) (by decide) (by decide) (by decide) (by decide), qc 5 (by decide), qc 6 (by decide)]
    exact ⟨rfl, rfl⟩
  · rw [st2_c (by decide), st2_c (by decide), st2_c (by decide), st2_e]
  · rw [st2_c (by decide), st2_c (by decide), st2_e]
  · rw [st2_k (by decide), st2_e]
  · rw [st2_e]
theorem sim_marsh {N : Nat} (hN : 1000 ≤ N) : S_marsh Inv N := by
  intro f t g u hI
  obtain ⟨L, B, hB, hF, hG⟩ := hI.2.1.text
  have hL := hB.1
  have hI2 := hI.thr 0
  obtain ⟨f3, ef, f3c, f34, f3d⟩ := rd0 N f
  obtain ⟨g7, eg, g7c, g78, g74, g7d⟩ := rg0 N g
  have hF3 : TxF f3 L B := hF.mv (f3c 1 (by decide) (by decide)) (f3c 2 (by decide) (by decide))
  have hG7 : TxG g7 L B := hG.mv (by rw [g7c 0 3 (fun h => by unfold tG at h; omega), st2_k (by decide)]) (funext fun j => by rw [g7c 1 j (fun h => by unfold tG at h; omega), st2_c (by decide)])
  obtain ⟨K, s, b, v, hT⟩ := tok_ex hB (i := 0) (Nat.zero_le _) hN
  obtain ⟨f4, a1, a2, a3⟩ := hT.1 f3 hF3 f34
  obtain ⟨g8, b1, b2, b3⟩ := hT.2.1 g7 hG7 g74
  obtain ⟨-, -, t1, t2, t3, t4, t5⟩ := id hT
  have hD : DR f4 g8 (fun a b => if a = 0 then if b = 0 then 4 else 0 else 0) := by
    refine ⟨⟨by decide, fun k hk => absurd hk (by simp), fun k hk => absurd hk (by simp), fun k hk => absurd hk (by simp)⟩, ?_, ?_, fun k hk => absurd hk (by simp), fun k hk => absurd hk (by simp), fun k hk => absurd hk (by simp)⟩
    · rw [a2 13 (by decide)]; exact f3d
    · rw [b2.2 19 (by decide), b2.2 20 (by decide), b2.2 21 (by decide), b2.2 22 (by decide)]; exact g7d
  have hH : HD L B f (st2 g 0 0 0) f4 g8 (fun a b => if a = 0 then if b = 0 then 4 else 0 else 0) 0 K s b v := ⟨hF3.mv (a2 1 (by decide)) (a2 2 (by decide)), hG7.mv (b2.2 3 (by decide)) (b2.1 1 (by decide)), by rw [b2.2 8 (by decide)]; exact g78, hD, fun _ => ⟨rfl, rfl, rfl⟩, fun c hc => by rw [a2 c (by omega)]; exact f3c c (by omega) (by omega), g7c.ag b2, a3, b3, t3, t2, t4, Nat.zero_le _⟩
  unfold q_X9_marsh
  rw [ef, eg, a1, b1, bi_some, bi_some]
  rcases m_loop hB hN 301 0 f4 g8 _ K s b v N N (by omega) (by omega) (by omega) hH with ⟨f', g', s', x, x', c1, c2, c3, c4, c5, c6, c7⟩ | ⟨f', g', M', n', c1, c2, c3, c4, c5, c6, c7⟩
  · rw [show lp_X4_read_18 N N 0 f4 = _ from c1, show lp_X10_marsh_41 N N 0 g8 = _ from c5, bi3_some, bi2_some, if_pos rfl, bi2_some, c2, if_neg (neg10 s' c3), mZ_dead c6 c3]
    exact ⟨_, _, _, rfl, rfl, hI2.read c4 c7⟩
  · obtain ⟨hw, d1, d2, d3, d4, d5⟩ := c5
    have hw1 := hw.1
    obtain ⟨g2, z1, ⟨z15, z16, z17, z18⟩, z3, z4, z5, z6, z7, z8⟩ := mZ_ok (nI n') hN c4 d2.2.1 hw1.2.2.1
    obtain ⟨f5, p1, ⟨p30, p31, p32, p33⟩, p3, p4, p5, p6⟩ := becF (st2 f' 1 1 0)
    have y13 : ∀ c, c ≠ 1 → st2 f' 1 1 0 c = f' c := fun c hc => st2_c hc
    rw [y13 13 (by decide)] at p30 p31 p32 p33
    obtain ⟨f6, q1, q2, q3, q4⟩ := begF (f := f5) (np := M' 0 1) (by rw [p31]; exact d1.2.1) hw1.2.2.1 hN
    obtain ⟨f7, r1, r2, r3, r4⟩ := forF (f := f6) hN
    rw [show lp_X4_read_18 N N 0 f4 = _ from c1, show lp_X10_marsh_41 N N 0 g8 = _ from c2, bi3_some, bi2_some, if_neg (by decide), if_pos rfl, bi2_some, if_pos (nI_pos' (by omega)), z1]
    simp only [sq]
    rw [p1, bi_some, q1, bi_some, r1, bi_some]
    have f7c : ∀ c, c ≠ 36 → c ≠ 23 → c ≠ 24 → f7 c = f5 c := fun c h1 h2 h3 => (r4 c h1).trans (q4 c h2 h3)
    refine ⟨_, _, _, rfl, rfl, hI.1, ⟨0, by omega, ?_, z6, fun j hj => absurd hj (by omega)⟩, M', hw, ⟨?_, fun k hk => ?_, fun k hk => ?_, fun k hk => ?_⟩, ⟨?_, fun k hk => ?_, fun k hk => ?_, fun k hk => ?_⟩, ⟨fun k => if k < M' 0 1 then M' 3 k else 0, 0, fun k hk => ?_, fun k h1 h2 => ?_, by omega, fun k hk => ?_, ?_, ?_, fun j hj => absurd hj (by omega)⟩, ⟨0, r2, z7, Or.inl rfl⟩, ⟨0, r3, z8, Or.inl rfl⟩⟩
    · rw [f7c 1 (by decide) (by decide) (by decide), p6 1 (by decide)]; exact st2_e
    · rw [f7c 3 (by decide) (by decide) (by decide), p30, p31, p32, p33]; exact d1
    · have p3 := p3 k (by omega)
      have d3 := d3 k hk
      rw [y13 14 (by decide), y13 15 (by decide)] at p3
      rw [f7c 4 (by decide) (by decide) (by decide), f7c 5 (by decide) (by decide) (by decide), p3.1, p3.2.1]
      exact ⟨d3.2.1, d3.2.2.1⟩
    · have p4 := p4 k (by omega)
      have d4 := d4 k hk
      rw [y13 17 (by decide), y13 18 (by decide)] at p4
      rw [f7c 7 (by decide) (by decide) (by decide), f7c 8 (by decide) (by decide) (by decide), p4.1, p4.2]
      exact ⟨d4.1, d4.2.1⟩
    · have p5 := p5 k (by omega)
      have d5 := d5 k hk
      rw [y13 19 (by decide), y13 20 (by decide), y13 21 (by decide)] at p5
      rw [f7c 9 (by decide) (by decide) (by decide), f7c 10 (by decide) (by decide) (by decide), f7c 11 (by decide) (by decide) (by decide), p5.1, p5.2.1, p5.2.2]
      exact ⟨d5.1, d5.2.1, d5.2.2.1⟩
    · rw [z15, z16, z17, z18]; exact d2
    · have z3 := z3 k (by omega)
      have d3 := d3 k hk
      rw [z3.1, z3.2.1]
      exact ⟨d3.2.2.2.2.1, d3.2.2.2.2.2.1⟩
    · have z4 := z4 k (by omega)
      have d4 := d4 k hk
      rw [z4.1, z4.2]
      exact ⟨d4.2.2.1, d4.2.2.2⟩
    · have x0 := (z3 (3 * k) (by omega)).2.2.1
      have x1 := (z3 (3 * k + 1) (by omega)).2.2.1
      have x2 := (z3 (3 * k + 2) (by omega)).2.2.1
      have d5 := d5 k hk
      rw [x0, x1, x2]
      exact ⟨d5.2.2.2.1, d5.2.2.2.2.1, d5.2.2.2.2.2⟩
    · show (if k < M' 0 1 then M' 3 k else 0) ≤ 9
      by_cases c : k < M' 0 1
      · rw [if_pos c]; exact (d3 k c).1
      · rw [if_neg c]; omega
    · exact if_neg (by omega)
    · have z3 := (z3 k hk).2.2.2
      have q2 := q2 k hk
      have p3 := (p3 k hk).2.2
      rw [y13 16 (by decide)] at p3
      show f7 24 k = nI (if k < M' 0 1 then M' 3 k else 0) ∧ g2 8 (0 + k) = nI (if k < M' 0 1 then M' 3 k else 0)
      rw [r4 24 (by decide), q2, Nat.zero_add, z3]
      by_cases c : k < M' 0 1
      · rw [if_pos c, if_pos c, if_pos c, p3]
        exact ⟨(d3 k c).2.2.2.1, (d3 k c).2.2.2.2.2.2⟩
      · rw [if_neg c, if_neg c, if_neg c]
        exact ⟨rfl, rfl⟩
    · rw [r4 23 (by decide)]; exact q3
    · exact z5
