/-! what is told becomes what is -/
theorem cp2_at (f : mM) (a b n d j : Nat) : cp2 f a b n d j = if d = b ∧ j < n then f a j else f d j := by
  by_cases h : d = b
  · subst h
    by_cases h2 : j < n
    · rw [cp2_e h2, if_pos ⟨rfl, h2⟩]
    · rw [cp2_o (by omega), if_neg (fun e => h2 e.2)]
  · rw [cp2_c h, if_neg (fun e => h e.1)]
theorem becF (f : mM) : ∃ f', q_X2_becomes f = some f' ∧ (f' 3 0 = f 13 0 ∧ f' 3 1 = f 13 1 ∧ f' 3 2 = f 13 2 ∧ f' 3 3 = f 13 3) ∧ (∀ k, k < 9 → f' 4 k = f 14 k ∧ f' 5 k = f 15 k ∧ f' 6 k = f 16 k) ∧ (∀ k, k < 4 → f' 7 k = f 17 k ∧ f' 8 k = f 18 k) ∧ (∀ k, k < 3 → f' 9 k = f 19 k ∧ f' 10 k = f 20 k ∧ f' 11 k = f 21 k) ∧ ∀ c, c < 3 ∨ 11 < c → f' c = f c := by
  unfold q_X2_becomes
  simp only [sq]
  refine ⟨_, rfl, ⟨?_, ?_, ?_, ?_⟩, fun k hk => ⟨?_, ?_, ?_⟩, fun k hk => ⟨?_, ?_⟩, fun k hk => ⟨?_, ?_, ?_⟩, fun c hc => ?_⟩
  · simp [cp2_at, st2_at]
  · simp [cp2_at, st2_at]
  · simp [cp2_at, st2_at]
  · simp [cp2_at, st2_at]
  · simp [cp2_at, st2_at, hk]
  · simp [cp2_at, st2_at, hk]
  · simp [cp2_at, st2_at, hk]
  · simp [cp2_at, st2_at, hk]
  · simp [cp2_at, st2_at, hk]
  · simp [cp2_at, st2_at, hk]
  · simp [cp2_at, st2_at, hk]
  · simp [cp2_at, st2_at, hk]
  · rw [cp2_c (by omega), cp2_c (by omega), cp2_c (by omega), cp2_c (by omega), cp2_c (by omega), cp2_c (by omega), cp2_c (by omega), cp2_c (by omega), st2_c (by omega), st2_c (by omega), st2_c (by omega), st2_c (by omega)]
theorem begF {f : mM} {np : Nat} (h1 : f 3 1 = nI np) (hp : np ≤ 9) {N : Nat} (hN : 1000 ≤ N) : ∃ f', q_X3_beginsAsTold N f = some f' ∧ (∀ k, k < 9 → f' 24 k = if k < np then f 6 k else 0) ∧ f' 23 3 = 0 ∧ ∀ c, c ≠ 23 → c ≠ 24 → f' c = f c := by
  obtain ⟨f', e, hI⟩ := for_ex (σ := mM) (fun n k q => lp_X3_beginsAsTold_2 N n (nI k) q) 9 (fun k q => (∀ c, c ≠ 24 → q c = f c) ∧ ∀ j, j < k → q 24 j = if j < np then f 6 j else 0) (fun q => some q)
    (fun n k q hk hI => by
      refine ⟨st2 q 24 k (if k < np then f 6 k else 0), ?_, fun c hc => by rw [st2_c hc]; exact hI.1 c hc, fun j hj => ?_⟩
      · show lp_X3_beginsAsTold_2 N (n + 1) (nI k) q = _
        rw [lp_X3_beginsAsTold_2_s, if_neg (ge9 hk)]
        simp only [sq]
        rw [hI.1 3 (by decide), h1, nI_1]
        by_cases c : k < np
        · rw [if_neg (nI_ge c (by omega)), gi_in _ hk (by decide), gi_in _ hk (by decide), cl_nI (by omega), if_pos c, hI.1 6 (by decide)]
        · rw [if_pos (nI_le (by omega) (by omega)), gi_in _ hk (by decide), cl_nI (by omega), if_neg c]
      · by_cases e : j = k
        · subst e; exact st2_e
        · rw [st2_k e]; exact hI.2 j (by omega))
    (fun n q hI => by
      show lp_X3_beginsAsTold_2 N (n + 1) (nI 9) q = _
      rw [lp_X3_beginsAsTold_2_s, if_pos (by decide)])
    9 0 f N (by omega) ⟨fun _ _ => rfl, fun j hj => absurd hj (by omega)⟩ (by omega)
  refine ⟨st2 f' 23 3 0, ?_, fun k hk => by rw [st2_c (by decide)]; exact hI.2 k hk, st2_e, fun c d1 d2 => by rw [st2_c d1]; exact hI.1 c d2⟩
  unfold q_X3_beginsAsTold
  rw [show lp_X3_beginsAsTold_2 N N 0 f = some f' from e, bi_some]
  rfl
theorem forF {f : mM} {N : Nat} (hN : 1000 ≤ N) : ∃ f', q_X9_forgetImages N f = some f' ∧ f' 36 0 = 0 ∧ f' 36 1 = 0 ∧ ∀ c, c ≠ 36 → f' c = f c := by
  have hz : vp_nar .boolean 0 = 0 := rfl
  refine ⟨st2 (st2 f 36 0 0) 36 1 0, ?_, by rw [st2_k (by decide)]; exact st2_e, st2_e, fun c hc => by rw [st2_c hc, st2_c hc]⟩
  obtain ⟨n, rfl⟩ : ∃ n, N = n + 1 + 1 + 1 := ⟨N - 3, by omega⟩
  unfold q_X9_forgetImages
  have s1 : ∀ M n x f, lp_X9_forgetImages_2 M (n + 1) x f = if 2 ≤ x then some f else gi x 2 (lp_X9_forgetImages_2 M n (x + 1) (st2 f 36 (Int32.toNatClampNeg x) (vp_nar .boolean 0))) := fun _ _ _ _ => rfl
  rw [s1, if_neg (by decide), gi_lit _ (by decide), s1, if_neg (by decide), gi_lit _ (by decide), s1, if_pos (by decide), bi_some, hz]
  rfl
theorem begG {g : mM} {np : Nat} (h1 : g 0 16 = nI np) (hp : np ≤ 9) (x1 : Int32) {N : Nat} (hN : 1000 ≤ N) : ∃ g', lp_X10_marsh_244 N x1 N 0 g = some g' ∧ (∀ k, k < 9 → g' 2 k = g 2 (9 + k) ∧ g' 3 k = g 3 (9 + k) ∧ g' 7 k = g 7 (9 + k) ∧ g' 8 k = if k < np then g 4 (9 + k) else 0) ∧ ∀ c, c ≠ 2 → c ≠ 3 → c ≠ 4 → c ≠ 7 → c ≠ 8 → g' c = g c := by
  obtain ⟨g', e, hI⟩ := for_ex (σ := mM) (fun n k q => lp_X10_marsh_244 N x1 n (nI k) q) 9 (fun k q => (∀ c, c ≠ 2 → c ≠ 3 → c ≠ 4 → c ≠ 7 → c ≠ 8 → q c = g c) ∧ (∀ j, 9 ≤ j → q 2 j = g 2 j ∧ q 3 j = g 3 j ∧ q 4 j = g 4 j ∧ q 7 j = g 7 j) ∧ ∀ j, j < k → q 2 j = g 2 (9 + j) ∧ q 3 j = g 3 (9 + j) ∧ q 7 j = g 7 (9 + j) ∧ q 8 j = if j < np then g 4 (9 + j) else 0) (fun q => some q)
    (fun n k q hk hI => by
      obtain ⟨i1, i2, i3⟩ := hI
      have i9 := i2 (9 + k) (by omega)
      refine ⟨st2 (st2 (st2 (st2 (st2 q 2 k (g 2 (9 + k))) 3 k (g 3 (9 + k))) 4 k (g 4 (9 + k))) 7 k (g 7 (9 + k))) 8 k (if k < np then g 4 (9 + k) else 0), ?_, fun c c2 c3 c4 c7 c8 => by rw [st2_c c8, st2_c c7, st2_c c4, st2_c c3, st2_c c2]; exact i1 c c2 c3 c4 c7 c8, fun j hj => ?_, fun j hj => ?_⟩
      · show lp_X10_marsh_244 N x1 (n + 1) (nI k) q = _
        rw [lp_X10_marsh_244_s, if_neg (ge9 hk), n9]
        simp only [sq]
        rw [gi_in _ (by omega) (by decide), gi_in _ (by omega) (by decide), gi_in _ (by omega) (by decide), gi_in _ (by omega) (by decide), gi_in _ (by omega) (by decide), gi_in _ (by omega) (by decide), gi_in _ (by omega) (by decide), gi_in _ (by omega) (by decide), cl_nI (by omega), cl_nI (by omega), nI_1]
        have y3 : st2 q 2 k (q 2 (9 + k)) 3 (9 + k) = g 3 (9 + k) := by rw [st2_c (by decide)]; exact i9.2.1
        have y4 : st2 (st2 q 2 k (g 2 (9 + k))) 3 k (g 3 (9 + k)) 4 (9 + k) = g 4 (9 + k) := by rw [st2_c (by decide), st2_c (by decide)]; exact i9.2.2.1
        have y7 : st2 (st2 (st2 q 2 k (g 2 (9 + k))) 3 k (g 3 (9 + k))) 4 k (g 4 (9 + k)) 7 (9 + k) = g 7 (9 + k) := by rw [st2_c (by decide), st2_c (by decide), st2_c (by decide)]; exact i9.2.2.2
        have y16 : st2 (st2 (st2 (st2 q 2 k (g 2 (9 + k))) 3 k (g 3 (9 + k))) 4 k (g 4 (9 + k))) 7 k (g 7 (9 + k)) 0 16 = nI np := by rw [st2_c (by decide), st2_c (by decide), st2_c (by decide), st2_c (by decide), i1 0 (by decide) (by decide) (by decide) (by decide) (by decide)]; exact h1
        have y44 : st2 (st2 (st2 (st2 q 2 k (g 2 (9 + k))) 3 k (g 3 (9 + k))) 4 k (g 4 (9 + k))) 7 k (g 7 (9 + k)) 4 k = g 4 (9 + k) := by rw [st2_c (by decide)]; exact st2_e
        rw [y3, i9.1, y4, y7, y16, y44]
        by_cases c : k < np
        · rw [if_neg (nI_ge c (by omega)), gi_in _ (by omega) (by decide), gi_in _ (by omega) (by decide), if_pos c]
        · rw [if_pos (nI_le (by omega) (by omega)), gi_in _ (by omega) (by decide), if_neg c]
      · have := i2 j hj
        simp only [st2_at]
        have e : ¬ j = k := by omega
        simp [e, this]
      · by_cases e : j = k
        · subst e
          simp [st2_at]
        · have := i3 j (by omega)
          simp [st2_at, e, this])
    (fun n q hI => by
      show lp_X10_marsh_244 N x1 (n + 1) (nI 9) q = _
      rw [lp_X10_marsh_244_s, if_pos (by decide)])
    9 0 g N (by omega) ⟨fun _ _ _ _ _ _ => rfl, fun _ _ => ⟨rfl, rfl, rfl, rfl⟩, fun j hj => absurd hj (by omega)⟩ (by omega)
  exact ⟨g', e, hI.2.2, hI.1⟩
theorem wtG {g : mM} (x1 : Int32) {N : Nat} (hN : 1000 ≤ N) : ∃ g', lp_X10_marsh_342 N x1 N 0 g = some g' ∧ (∀ k, k < 4 → g' 5 k = g 5 (4 + k) ∧ g' 6 k = g 6 (4 + k)) ∧ ∀ c, c ≠ 5 → c ≠ 6 → g' c = g c := by
  obtain ⟨g', e, hI⟩ := for_ex (σ := mM) (fun n k q => lp_X10_marsh_342 N x1 n (nI k) q) 4 (fun k q => (∀ c, c ≠ 5 → c ≠ 6 → q c = g c) ∧ (∀ j, 4 ≤ j → q 5 j = g 5 j ∧ q 6 j = g 6 j) ∧ ∀ j, j < k → q 5 j = g 5 (4 + j) ∧ q 6 j = g 6 (4 + j)) (fun q => some q)
    (fun n k q hk hI => by
      obtain ⟨i1, i2, i3⟩ := hI
      have i9 := i2 (4 + k) (by omega)
      refine ⟨st2 (st2 q 5 k (g 5 (4 + k))) 6 k (g 6 (4 + k)), ?_, fun c c5 c6 => by rw [st2_c c6, st2_c c5]; exact i1 c c5 c6, fun j hj => ?_, fun j hj => ?_⟩
      · show lp_X10_marsh_342 N x1 (n + 1) (nI k) q = _
        rw [lp_X10_marsh_342_s, if_neg (show ¬ (4 : Int32) ≤ nI k from nI_ge (b := 4) hk (by decide)), n4]
        simp only [sq]
        rw [gi_in _ (by omega) (by decide), gi_in _ (by omega) (by decide), gi_in _ (by omega) (by decide), gi_in _ (by omega) (by decide), cl_nI (by omega), cl_nI (by omega), nI_1, st2_c (c := 5) (d := 6) (by decide), i9.1, i9.2]
      · have := i2 j hj
        have e : ¬ j = k := by omega
        simp [st2_at, e, this]
      · by_cases e : j = k
        · subst e
          simp [st2_at]
        · have := i3 j (by omega)
          simp [st2_at, e, this])
    (fun n q hI => by
      show lp_X10_marsh_342 N x1 (n + 1) (nI 4) q = _
      rw [lp_X10_marsh_342_s, if_pos (by decide)])
    4 0 g N (by omega) ⟨fun _ _ _ => rfl, fun _ _ => ⟨rfl, rfl⟩, fun j hj => absurd hj (by omega)⟩ (by omega)
  exact ⟨g', e, hI.2.2, hI.1⟩
/-- nothing told anew: all as it was -/
theorem Inv.read {f : mM} {t : Int64} {g : mM} {u : Int64} (hI : Inv f t g u) {f' g' : mM} (hf : ∀ c, c < 12 ∨ 22 < c → f' c = f c) (hg : FG g g') : Inv f' t g' u := by
  obtain ⟨h0, h1, M, h2, h3, h4, h5, h6, h7⟩ := hI
  have gc : ∀ c, c = 1 ∨ 8 ≤ c → g' c = g c := fun c hc => funext fun j => hg c j (fun h => by unfold tG at h; omega)
  have g0 : ∀ k, k < 4 ∨ 9 ≤ k ∧ k < 19 → g' 0 k = g 0 k := fun k hk => hg 0 k (fun h => by unfold tG at h; omega)
  have hw := h2.1
  refine ⟨h0, h1.go (by rw [hf 1 (by decide)]) (hf 2 (by decide)) (g0 3 (by decide)) (gc 1 (by decide)), M, h2, h3.go (fun c _ h => hf c (by omega)), ?_, h5.go (by rw [hf _ (by decide)]) (hf _ (by decide)) (hf _ (by decide)) (hf _ (by decide)) (gc _ (by decide)), h6.go (by rw [hf _ (by decide)]) (hf _ (by decide)) (hf _ (by decide)) (hf _ (by decide)) (gc _ (by decide)) (by rw [hf _ (by decide)]) (by rw [gc _ (by decide)]), h7.go (by rw [hf _ (by decide)]) (hf _ (by decide)) (hf _ (by decide)) (hf _ (by decide)) (gc _ (by decide)) (by rw [hf _ (by decide)]) (by rw [gc _ (by decide)])⟩
  obtain ⟨a1, a2, a3, a4⟩ := h4
  refine ⟨?_, fun k hk => ?_, fun k hk => ?_, fun k hk => ?_⟩
  · rw [g0 15 (by decide), g0 16 (by decide), g0 17 (by decide), g0 18 (by decide)]
    exact a1
  · rw [hg 2 k (fun h => by unfold tG at h; omega), hg 3 k (fun h => by unfold tG at h; omega)]
    exact a2 k hk
  · rw [hg 5 k (fun h => by unfold tG at h; omega), hg 6 k (fun h => by unfold tG at h; omega)]
    exact a3 k hk
  · rw [hg 7 _ (fun h => by unfold tG at h; omega), hg 7 _ (fun h => by unfold tG at h; omega), hg 7 _ (fun h => by unfold tG at h; omega)]
    exact a4 k hk
theorem neg10 : ∀ s, s ≤ 300 → ¬ (0 : Int32) ≤ -10 - nI s := by decide +kernel
theorem IT.text {f g : mM} (h : IT f g) : ∃ L B, TxB L B ∧ TxF f L B ∧ TxG g L B := by
  obtain ⟨L, hL, e1, e2, e3⟩ := h
  have key : ∀ j, j < L → (g 1 j).toNatClampNeg < 256 ∧ g 1 j = nI (g 1 j).toNatClampNeg ∧ f 2 j = (nI (g 1 j).toNatClampNeg).toInt8.toInt32 := by
    intro j hj
    obtain ⟨c, c1, c2, c3⟩ := e3 j hj
    have e : (g 1 j).toNatClampNeg = c := by rw [c2]; exact nI_clamp (by omega)
    rw [e]
    exact ⟨c1, c2, c3⟩
  exact ⟨L, fun j => (g 1 j).toNatClampNeg, ⟨hL, fun j hj => (key j hj).1⟩, ⟨e1, fun j hj => (key j hj).2.2⟩, ⟨e2, fun j hj => (key j hj).2.1⟩⟩
