/-! images -/
theorem keepG {g : mM} {i : Nat} (hi : i < 2) {N : Nat} (hN : 100 ≤ N) : ∃ g' : mM, lp_X10_keep_18 N (nI i) N 0 g = some g' ∧ (∀ c, c ≠ 9 → g' c = g c) ∧ (∀ j, j < 50 → g' 9 (50 * i + j) = g 8 j) ∧ ∀ j, (j < 50 * i ∨ 50 * i + 50 ≤ j) → g' 9 j = g 9 j := by
  obtain ⟨s', e, hs⟩ := for_ex (σ := mM) (fun n k s => lp_X10_keep_18 N (nI i) n (nI k) s) 50 (fun k s => (∀ c, c ≠ 9 → s c = g c) ∧ (∀ j, j < k → s 9 (50 * i + j) = g 8 j) ∧ ∀ j, (j < 50 * i ∨ 50 * i + k ≤ j) → s 9 j = g 9 j) (fun s => some s)
    (fun n k s hk hI => by
      obtain ⟨i1, i2, i3⟩ := hI
      refine ⟨st2 s 9 (50 * i + k) (g 8 k), ?_, fun c hc => (st2_c hc).trans (i1 c hc), fun j hj => ?_, fun j hj => ?_⟩
      · show lp_X10_keep_18 N (nI i) (n + 1) (nI k) s = _
        rw [lp_X10_keep_18_s, if_neg (show ¬ (50 : Int32) ≤ nI k from nI_ge (b := 50) hk (by decide)), gi_in _ hk (by decide), show (50 : Int32) * nI i = nI (50 * i) from pk_mul 50 i, nI_add, gi_in _ (by omega) (by decide)]
        simp only [sq]
        rw [cl_nI (by omega), cl_nI (by omega), i1 8 (by decide), nI_1]
      · by_cases hjk : j = k
        · subst hjk; exact st2_e
        · exact (st2_k (by omega)).trans (i2 j (by omega))
      · exact (st2_k (by omega)).trans (i3 j (by omega)))
    (fun n s hI => by
      show lp_X10_keep_18 N (nI i) (n + 1) (nI 50) s = _
      rw [lp_X10_keep_18_s]
      exact if_pos (Int32.le_refl _))
    50 0 g N rfl ⟨fun _ _ => rfl, fun j hj => absurd hj (by omega), fun _ _ => rfl⟩ (by omega)
  exact ⟨s', e, hs.1, hs.2.1, hs.2.2⟩
theorem backG {g : mM} {i : Nat} (hi : i < 2) {N : Nat} (hN : 100 ≤ N) : ∃ g' : mM, lp_X10_back_30 N (nI i) N 0 g = some g' ∧ (∀ c, c ≠ 8 → g' c = g c) ∧ ∀ j, j < 50 → g' 8 j = g 9 (50 * i + j) := by
  obtain ⟨s', e, hs⟩ := for_ex (σ := mM) (fun n k s => lp_X10_back_30 N (nI i) n (nI k) s) 50 (fun k s => (∀ c, c ≠ 8 → s c = g c) ∧ ∀ j, j < k → s 8 j = g 9 (50 * i + j)) (fun s => some s)
    (fun n k s hk hI => by
      obtain ⟨i1, i2⟩ := hI
      refine ⟨st2 s 8 k (g 9 (50 * i + k)), ?_, fun c hc => (st2_c hc).trans (i1 c hc), fun j hj => ?_⟩
      · show lp_X10_back_30 N (nI i) (n + 1) (nI k) s = _
        rw [lp_X10_back_30_s, if_neg (show ¬ (50 : Int32) ≤ nI k from nI_ge (b := 50) hk (by decide)), show (50 : Int32) * nI i = nI (50 * i) from pk_mul 50 i, nI_add, gi_in _ (by omega) (by decide), gi_in _ hk (by decide)]
        simp only [sq]
        rw [cl_nI (by omega), cl_nI (by omega), i1 9 (by decide), nI_1]
      · by_cases hjk : j = k
        · subst hjk; exact st2_e
        · exact (st2_k (by omega)).trans (i2 j (by omega)))
    (fun n s hI => by
      show lp_X10_back_30 N (nI i) (n + 1) (nI 50) s = _
      rw [lp_X10_back_30_s]
      exact if_pos (Int32.le_refl _))
    50 0 g N rfl ⟨fun _ _ => rfl, fun j hj => absurd hj (by omega)⟩ (by omega)
  exact ⟨s', e, hs.1, hs.2⟩
theorem isImage_eq (x : Int32) : q_X9_isImage x = some (if 0 ≤ x ∧ x ≤ 1 then 1 else 0) := by
  unfold q_X9_isImage
  rw [within_eq, bi_some]
  split
  · exact rz1 _
  · exact rz0 _
theorem nar1 : vp_nar .boolean 1 = 1 := rfl
/-- an image is kept: cells c .. of the class, o .. of the reference -/
theorem keep_NS {np : Nat} {f g f' g' : mM} {S : Nat → Nat} {w c o : Nat} (h : NS np f g 23 8 0 S w) (h0 : f' c 3 = f 23 3) (h1 : ∀ j, j < 9 → f' (c + 1) j = f 24 j) (h2 : ∀ j, j < 20 → f' (c + 2) j = f 25 j) (h3 : ∀ j, j < 20 → f' (c + 3) j = f 26 j) (hg : ∀ j, j < 50 → g' 9 (o + j) = g 8 j) : NS np f' g' c 9 o S w := by
  obtain ⟨n1, n2, n3, n4, n5, n6, n7⟩ := h
  refine ⟨n1, n2, n3, fun k hk => ?_, by rw [h0]; exact n5, by rw [hg 9 (by omega)]; exact n6, fun i hi => ?_⟩
  · have := n4 k hk
    rw [Nat.zero_add] at this
    rw [h1 k hk, hg k (by omega)]
    exact this
  · have := n7 i hi
    rw [h2 i (by omega), h3 i (by omega), show o + 10 + 2 * i = o + (10 + 2 * i) by omega, show o + 11 + 2 * i = o + (11 + 2 * i) by omega, hg _ (by omega), hg _ (by omega)]
    rw [Nat.zero_add, Nat.zero_add] at this
    exact this
theorem back_NS {np : Nat} {f g f' g' : mM} {S : Nat → Nat} {w c o : Nat} (h : NS np f g c 9 o S w) (h0 : f' 23 3 = f c 3) (h1 : ∀ j, j < 9 → f' 24 j = f (c + 1) j) (h2 : ∀ j, j < 20 → f' 25 j = f (c + 2) j) (h3 : ∀ j, j < 20 → f' 26 j = f (c + 3) j) (hg : ∀ j, j < 50 → g' 8 j = g 9 (o + j)) : NS np f' g' 23 8 0 S w := by
  obtain ⟨n1, n2, n3, n4, n5, n6, n7⟩ := h
  refine ⟨n1, n2, n3, fun k hk => ?_, by rw [h0]; exact n5, by rw [Nat.zero_add, hg 9 (by omega)]; exact n6, fun i hi => ?_⟩
  · have := n4 k hk
    rw [Nat.zero_add, hg k (by omega), show f' (23 + 1) k = f (c + 1) k from h1 k hk]
    exact this
  · have := n7 i hi
    rw [show f' (23 + 2) i = f (c + 2) i from h2 i (by omega), show f' (23 + 3) i = f (c + 3) i from h3 i (by omega), Nat.zero_add, Nat.zero_add, hg _ (by omega), hg _ (by omega), ← Nat.add_assoc, ← Nat.add_assoc]
    exact this
theorem sim_keep {N : Nat} (hN : 1000 ≤ N) : S_keep Inv N := by
  intro f t g u hI x1
  have hI2 := hI.thr 0
  obtain ⟨h0, h1, M, hw, hf, hg, ⟨S, w, hn⟩, hk0, hk1⟩ := id hI2
  have hb := hw.1
  obtain ⟨n1, n2, n3, n4, n5, n6, n7⟩ := id hn
  have n8 : ∀ k, k < 9 → f 24 k = nI (S k) := fun k hk => (n4 k hk).1
  have n9 : ∀ k, k < 9 → st2 g 0 0 0 8 k = nI (S k) := fun k hk => by have := (n4 k hk).2; rwa [Nat.zero_add] at this
  have hcn := cn9 (P := fun k => decide (1 ≤ S k)) (np := M 0 1) (by omega) (fun k h1 h2 => by simp [n2 k h1 h2])
  unfold q_X9_keep q_X10_keep
  simp only [sq]
  rcases wh2 x1 with rfl | rfl | ⟨c0, c1, c2⟩
  · obtain ⟨g', e2, b1, b2, b3⟩ := keepG (g := st2 g 0 0 0) (i := 0) (by omega) (N := N) (by omega)
    have e2 : lp_X10_keep_18 N 0 N 0 (st2 g 0 0 0) = some g' := e2
    rw [show q_X9_isImage 0 = some 1 from by decide, show q_X10_in 0 0 1 = some 1 from by decide, bi_some, bi_some, if_neg z10, if_neg z10, if_pos rfl, e2, bi_some]
    unfold q_X3_becomes_28_23
    simp only [sq, bi_some]
    rw [gi_lit (i := 0) (n := 2) _ (by decide), gi_lit (i := 0) (n := 2) _ (by decide), show Int32.toNatClampNeg 0 = 0 from by decide, nar1]
    have m8 : ∀ k, k < 9 → st2 (st2 (cp2 (cp2 (cp2 f 24 29 9) 25 30 20) 26 31 20) 28 3 (cp2 (cp2 (cp2 f 24 29 9) 25 30 20) 26 31 20 23 3)) 36 0 1 24 k = nI (S k) := fun k hk => by
      rw [st2_c (by decide), st2_c (by decide), cp2_c (by decide), cp2_c (by decide), cp2_c (by decide)]; exact n8 k hk
    have m9 : ∀ k, k < 9 → st2 g' 10 0 1 8 k = nI (S k) := fun k hk => by rw [st2_c (by decide), b1 8 (by decide)]; exact n9 k hk
    rw [notUnderF n1 m8 (by omega), aboveG (np := M 0 1) (by rw [st2_c (by decide), b1 0 (by decide)]; exact hg.1.2.1) (by omega) n1 m9 (by omega), bi_some, bi_some, hcn]
    refine ⟨_, _, _, rfl, rfl, h0, h1.go ?_ ?_ ?_ ?_, M, hw, hf.go (fun c h h' => ?_), hg.go (fun c h h' => ?_) (fun k h h' => ?_), ⟨S, w, hn.go ?_ ?_ ?_ ?_ ?_⟩, ⟨1, st2_e, st2_e, Or.inr ⟨rfl, S, w, keep_NS hn ?_ ?_ ?_ ?_ ?_⟩⟩, ?_⟩
    · rw [st2_c (by decide), st2_c (by decide), cp2_c (by decide), cp2_c (by decide), cp2_c (by decide)]
    · rw [st2_c (by decide), st2_c (by decide), cp2_c (by decide), cp2_c (by decide), cp2_c (by decide)]
    · rw [st2_c (by decide), b1 _ (by decide)]
    · rw [st2_c (by decide), b1 _ (by decide)]
    · rw [st2_c (by omega), st2_c (by omega), cp2_c (by omega), cp2_c (by omega), cp2_c (by omega)]
    · rw [st2_c (by omega), b1 _ (by omega)]
    · rw [st2_c (by decide), b1 _ (by decide)]
    · rw [st2_c (by decide), st2_c (by decide), cp2_c (by decide), cp2_c (by decide), cp2_c (by decide)]
    · rw [st2_c (by decide), st2_c (by decide), cp2_c (by decide), cp2_c (by decide), cp2_c (by decide)]
    · rw [st2_c (by decide), st2_c (by decide), cp2_c (by decide), cp2_c (by decide), cp2_c (by decide)]
    · rw [st2_c (by decide), st2_c (by decide), cp2_c (by decide), cp2_c (by decide), cp2_c (by decide)]
    · rw [st2_c (by decide), b1 _ (by decide)]
    · rw [st2_c (by decide), st2_e, cp2_c (by decide), cp2_c (by decide), cp2_c (by decide)]
    · intro j hj
      rw [st2_c (by decide), st2_c (by decide), cp2_c (by decide), cp2_c (by decide), cp2_e hj]
    · intro j hj
      rw [st2_c (by decide), st2_c (by decide), cp2_c (by decide), cp2_e hj, cp2_c (by decide)]
    · intro j hj
      rw [st2_c (by decide), st2_c (by decide), cp2_e hj, cp2_c (by decide), cp2_c (by decide)]
    · intro j hj
      rw [st2_c (by decide)]
      exact b2 j hj
    · obtain ⟨z, z1, z2, z3⟩ := hk1
      refine ⟨z, ?_, ?_, ?_⟩
      · rw [st2_k (by decide), st2_c (by decide), cp2_c (by decide), cp2_c (by decide), cp2_c (by decide)]; exact z1
      · rw [st2_k (by decide), b1 _ (by decide)]; exact z2
      · rcases z3 with z3 | ⟨z3, S2, w2, q1, q2, q3, q4, q5, q6, q7⟩
        · exact Or.inl z3
        · refine Or.inr ⟨z3, S2, w2, q1, q2, q3, fun k hk => ?_, ?_, ?_, fun i hi => ?_⟩
          · have := q4 k hk
            rw [st2_c (by decide), st2_c (by decide), cp2_c (by decide), cp2_c (by decide), cp2_c (by decide), st2_c (by decide), b3 _ (by omega)]
            exact this
          · rw [st2_c (by decide), st2_c (by decide), cp2_c (by decide), cp2_c (by decide), cp2_c (by decide)]; exact q5
          · rw [st2_c (by decide), b3 _ (by omega)]; exact q6
          · have := q7 i hi
            rw [st2_c (by decide), st2_c (by decide), cp2_c (by decide), cp2_c (by decide), cp2_c (by decide), st2_c (by decide), st2_c (by decide), cp2_c (by decide), cp2_c (by decide), cp2_c (by decide), st2_c (by decide), b3 _ (by omega), b3 _ (by omega)]
            exact this
  · obtain ⟨g', e2, b1, b2, b3⟩ := keepG (g := st2 g 0 0 0) (i := 1) (by omega) (N := N) (by omega)
    have e2 : lp_X10_keep_18 N 1 N 0 (st2 g 0 0 0) = some g' := e2
    rw [show q_X9_isImage 1 = some 1 from by decide, show q_X10_in 1 0 1 = some 1 from by decide, bi_some, bi_some, if_neg z10, if_neg z10, if_neg z10, if_pos rfl, e2, bi_some]
    unfold q_X3_becomes_32_23
    simp only [sq, bi_some]
    rw [gi_lit (i := 1) (n := 2) _ (by decide), gi_lit (i := 1) (n := 2) _ (by decide), show Int32.toNatClampNeg 1 = 1 from by decide, nar1]
    have m8 : ∀ k, k < 9 → st2 (st2 (cp2 (cp2 (cp2 f 24 33 9) 25 34 20) 26 35 20) 32 3 (cp2 (cp2 (cp2 f 24 33 9) 25 34 20) 26 35 20 23 3)) 36 1 1 24 k = nI (S k) := fun k hk => by
      rw [st2_c (by decide), st2_c (by decide), cp2_c (by decide), cp2_c (by decide), cp2_c (by decide)]; exact n8 k hk
    have m9 : ∀ k, k < 9 → st2 g' 10 1 1 8 k = nI (S k) := fun k hk => by rw [st2_c (by decide), b1 8 (by decide)]; exact n9 k hk
    rw [notUnderF n1 m8 (by omega), aboveG (np := M 0 1) (by rw [st2_c (by decide), b1 0 (by decide)]; exact hg.1.2.1) (by omega) n1 m9 (by omega), bi_some, bi_some, hcn]
    refine ⟨_, _, _, rfl, rfl, h0, h1.go ?_ ?_ ?_ ?_, M, hw, hf.go (fun c h h' => ?_), hg.go (fun c h h' => ?_) (fun k h h' => ?_), ⟨S, w, hn.go ?_ ?_ ?_ ?_ ?_⟩, ?_, ⟨1, st2_e, st2_e, Or.inr ⟨rfl, S, w, keep_NS hn ?_ ?_ ?_ ?_ ?_⟩⟩⟩
    · rw [st2_c (by decide), st2_c (by decide), cp2_c (by decide), cp2_c (by decide), cp2_c (by decide)]
    · rw [st2_c (by decide), st2_c (by decide), cp2_c (by decide), cp2_c (by decide), cp2_c (by decide)]
    · rw [st2_c (by decide), b1 _ (by decide)]
    · rw [st2_c (by decide), b1 _ (by decide)]
    · rw [st2_c (by omega), st2_c (by omega), cp2_c (by omega), cp2_c (by omega), cp2_c (by omega)]
    · rw [st2_c (by omega), b1 _ (by omega)]
    · rw [st2_c (by decide), b1 _ (by decide)]
    · rw [st2_c (by decide), st2_c (by decide), cp2_c (by decide), cp2_c (by decide), cp2_c (by decide)]
    · rw [st2_c (by decide), st2_c (by decide), cp2_c (by decide), cp2_c (by decide), cp2_c (by decide)]
    · rw [st2_c (by decide), st2_c (by decide), cp2_c (by decide), cp2_c (by decide), cp2_c (by decide)]
    · rw [st2_c (by decide), st2_c (by decide), cp2_c (by decide), cp2_c (by decide), cp2_c (by decide)]
    · rw [st2_c (by decide), b1 _ (by decide)]
    · obtain ⟨z, z1, z2, z3⟩ := hk0
      refine ⟨z, ?_, ?_, ?_⟩
      · rw [st2_k (by decide), st2_c (by decide), cp2_c (by decide), cp2_c (by decide), cp2_c (by decide)]; exact z1
      · rw [st2_k (by decide), b1 _ (by decide)]; exact z2
      · rcases z3 with z3 | ⟨z3, S2, w2, q1, q2, q3, q4, q5, q6, q7⟩
        · exact Or.inl z3
        · refine Or.inr ⟨z3, S2, w2, q1, q2, q3, fun k hk => ?_, ?_, ?_, fun i hi => ?_⟩
          · have := q4 k hk
            rw [st2_c (by decide), st2_c (by decide), cp2_c (by decide), cp2_c (by decide), cp2_c (by decide), st2_c (by decide), b3 _ (by omega)]
            exact this
          · rw [st2_c (by decide), st2_c (by decide), cp2_c (by decide), cp2_c (by decide), cp2_c (by decide)]; exact q5
          · rw [st2_c (by decide), b3 _ (by omega)]; exact q6
          · have := q7 i hi
            rw [st2_c (by decide), st2_c (by decide), cp2_c (by decide), cp2_c (by decide), cp2_c (by decide), st2_c (by decide), st2_c (by decide), cp2_c (by decide), cp2_c (by decide), cp2_c (by decide), st2_c (by decide), b3 _ (by omega), b3 _ (by omega)]
            exact this
    · rw [st2_c (by decide), st2_e, cp2_c (by decide), cp2_c (by decide), cp2_c (by decide)]
    · intro j hj
      rw [st2_c (by decide), st2_c (by decide), cp2_c (by decide), cp2_c (by decide), cp2_e hj]
    · intro j hj
      rw [st2_c (by decide), st2_c (by decide), cp2_c (by decide), cp2_e hj, cp2_c (by decide)]
    · intro j hj
      rw [st2_c (by decide), st2_c (by decide), cp2_e hj, cp2_c (by decide), cp2_c (by decide)]
    · intro j hj
      rw [st2_c (by decide)]
      exact b2 j hj
  · rw [isImage_eq, in_eq, bi_some, bi_some, if_neg c0, if_pos rfl, if_pos rfl]
    exact ⟨-1, _, _, rfl, rfl, hI2⟩
theorem sim_back {N : Nat} (hN : 1000 ≤ N) : S_back Inv N := by
  intro f t g u hI x1
  have hI2 := hI.thr 0
  obtain ⟨h0, h1, M, hw, hf, hg, hn0, hk0, hk1⟩ := id hI2
  have hb := hw.1
  unfold q_X9_back q_X10_back
  simp only [sq]
  rcases wh2 x1 with rfl | rfl | ⟨c0, c1, c2⟩
  · rw [show q_X9_isImage 0 = some 1 from by decide, show q_X10_in 0 0 1 = some 1 from by decide, bi_some, bi_some, if_neg z10, if_neg z10, gi_lit (i := 0) (n := 2) _ (by decide), gi_lit (i := 0) (n := 2) _ (by decide), show Int32.toNatClampNeg 0 = 0 from by decide]
    obtain ⟨z, z1, z2, z3⟩ := id hk0
    rw [z1, z2]
    rcases z3 with rfl | ⟨rfl, S, w, hn⟩
    · rw [if_pos rfl, if_pos rfl]
      exact ⟨-2, _, _, rfl, rfl, hI2⟩
    · obtain ⟨g', e2, b1, b2⟩ := backG (g := st2 g 0 0 0) (i := 0) (by omega) (N := N) (by omega)
      have e2 : lp_X10_back_30 N 0 N 0 (st2 g 0 0 0) = some g' := e2
      rw [if_neg z10, if_neg z10, if_pos rfl, e2, bi_some]
      unfold q_X3_becomes_23_28
      simp only [sq, bi_some]
      have hns : NS (M 0 1) (st2 (cp2 (cp2 (cp2 f 29 24 9) 30 25 20) 31 26 20) 23 3 (cp2 (cp2 (cp2 f 29 24 9) 30 25 20) 31 26 20 28 3)) g' 23 8 0 S w := by
        refine back_NS hn ?_ ?_ ?_ ?_ (fun j hj => b2 j hj)
        · rw [st2_e, cp2_c (by decide), cp2_c (by decide), cp2_c (by decide)]
        · intro j hj
          rw [st2_c (by decide), cp2_c (by decide), cp2_c (by decide), cp2_e hj]
        · intro j hj
          rw [st2_c (by decide), cp2_c (by decide), cp2_e hj, cp2_c (by decide)]
        · intro j hj
          rw [st2_c (by decide), cp2_e hj, cp2_c (by decide), cp2_c (by decide)]
      obtain ⟨n1, n2, n3, n4, n5, n6, n7⟩ := id hns
      have hcn := cn9 (P := fun k => decide (1 ≤ S k)) (np := M 0 1) (by omega) (fun k h1 h2 => by simp [n2 k h1 h2])
      rw [notUnderF n1 (fun k hk => (n4 k hk).1) (by omega), aboveG (np := M 0 1) (by rw [b1 0 (by decide)]; exact hg.1.2.1) (by omega) n1 (fun k hk => by have := (n4 k hk).2; rwa [Nat.zero_add] at this) (by omega), bi_some, bi_some, hcn]
      exact ⟨_, _, _, rfl, rfl, hI2.now hw hf hg (fun c d1 d2 d3 d4 => by rw [st2_c d1, cp2_c d4, cp2_c d3, cp2_c d2]) b1 hns hk0 hk1⟩
  · rw [show q_X9_isImage 1 = some 1 from by decide, show q_X10_in 1 0 1 = some 1 from by decide, bi_some, bi_some, if_neg z10, if_neg z10, gi_lit (i := 1) (n := 2) _ (by decide), gi_lit (i := 1) (n := 2) _ (by decide), show Int32.toNatClampNeg 1 = 1 from by decide]
    obtain ⟨z, z1, z2, z3⟩ := id hk1
    rw [z1, z2]
    rcases z3 with rfl | ⟨rfl, S, w, hn⟩
    · rw [if_pos rfl, if_pos rfl]
      exact ⟨-2, _, _, rfl, rfl, hI2⟩
    · obtain ⟨g', e2, b1, b2⟩ := backG (g := st2 g 0 0 0) (i := 1) (by omega) (N := N) (by omega)
      have e2 : lp_X10_back_30 N 1 N 0 (st2 g 0 0 0) = some g' := e2
      rw [if_neg z10, if_neg z10, if_neg z10, if_pos rfl, e2, bi_some]
      unfold q_X3_becomes_23_32
      simp only [sq, bi_some]
      have hns : NS (M 0 1) (st2 (cp2 (cp2 (cp2 f 33 24 9) 34 25 20) 35 26 20) 23 3 (cp2 (cp2 (cp2 f 33 24 9) 34 25 20) 35 26 20 32 3)) g' 23 8 0 S w := by
        refine back_NS hn ?_ ?_ ?_ ?_ (fun j hj => b2 j hj)
        · rw [st2_e, cp2_c (by decide), cp2_c (by decide), cp2_c (by decide)]
        · intro j hj
          rw [st2_c (by decide), cp2_c (by decide), cp2_c (by decide), cp2_e hj]
        · intro j hj
          rw [st2_c (by decide), cp2_c (by decide), cp2_e hj, cp2_c (by decide)]
        · intro j hj
          rw [st2_c (by decide), cp2_e hj, cp2_c (by decide), cp2_c (by decide)]
      obtain ⟨n1, n2, n3, n4, n5, n6, n7⟩ := id hns
      have hcn := cn9 (P := fun k => decide (1 ≤ S k)) (np := M 0 1) (by omega) (fun k h1 h2 => by simp [n2 k h1 h2])
      rw [notUnderF n1 (fun k hk => (n4 k hk).1) (by omega), aboveG (np := M 0 1) (by rw [b1 0 (by decide)]; exact hg.1.2.1) (by omega) n1 (fun k hk => by have := (n4 k hk).2; rwa [Nat.zero_add] at this) (by omega), bi_some, bi_some, hcn]
      exact ⟨_, _, _, rfl, rfl, hI2.now hw hf hg (fun c d1 d2 d3 d4 => by rw [st2_c d1, cp2_c d4, cp2_c d3, cp2_c d2]) b1 hns hk0 hk1⟩
  · rw [isImage_eq, in_eq, bi_some, bi_some, if_neg c0, if_pos rfl, if_pos rfl]
    exact ⟨-1, _, _, rfl, rfl, hI2⟩
