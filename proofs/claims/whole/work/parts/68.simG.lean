theorem Inv.scr {f : mM} {t : Int64} {g : mM} {u : Int64} {f' g' : mM} (h : Inv f t g u) (hf : ∀ c, c ≤ 11 ∨ (23 ≤ c ∧ c ≤ 36) → f' c = f c) (hg0 : ∀ k, k = 3 ∨ (15 ≤ k ∧ k ≤ 18) → g' 0 k = g 0 k) (hg : ∀ c, 1 ≤ c → c ≤ 10 → g' c = g c) : Inv f' t g' u := by
  obtain ⟨h0, h1, M, hw, h3, h4, h5, h6, h7⟩ := h
  exact ⟨h0, h1.go (by rw [hf _ (by omega)]) (hf _ (by omega)) (hg0 _ (by omega)) (hg _ (by omega) (by omega)), M, hw, h3.go (fun c a b => hf c (by omega)), h4.go (fun c a b => hg c (by omega) (by omega)) (fun k a b => hg0 k (by omega)), h5.go (by rw [hf _ (by omega)]) (hf _ (by omega)) (hf _ (by omega)) (hf _ (by omega)) (hg _ (by omega) (by omega)), h6.go (by rw [hf _ (by omega)]) (hf _ (by omega)) (hf _ (by omega)) (hf _ (by omega)) (hg _ (by omega) (by omega)) (by rw [hf _ (by omega)]) (by rw [hg _ (by omega) (by omega)]), h7.go (by rw [hf _ (by omega)]) (hf _ (by omega)) (hf _ (by omega)) (hf _ (by omega)) (hg _ (by omega) (by omega)) (by rw [hf _ (by omega)]) (by rw [hg _ (by omega) (by omega)])⟩
/-! in how many ways: the table -/
def inn (W : Nat) : Nat → Nat → (Nat → Int32) → (Nat → Int32)
  | 0, _, T => T
  | c + 1, k, T => inn W c (k + 1) (upd T k (T k + T (k - W)))
theorem inn_snoc (W : Nat) : ∀ c k T, inn W (c + 1) k T = upd (inn W c k T) (k + c) (inn W c k T (k + c) + inn W c k T (k + c - W)) := by
  intro c
  induction c with
  | zero => intro k T; rfl
  | succ c ih =>
    intro k T
    show inn W (c + 1) (k + 1) (upd T k (T k + T (k - W))) = _
    rw [ih, show k + 1 + c = k + (c + 1) by omega]
    rfl
def ot (A : Nat → Nat) : Nat → (Nat → Int32)
  | 0 => fun j => if j = 0 then 1 else 0
  | p + 1 => inn (A p) (10 - A p) (A p) (ot A p)
theorem upd_e {f : Nat → Int32} {k : Nat} {x : Int32} : upd f k x k = x := by simp [upd]
theorem upd_n {f : Nat → Int32} {k j : Nat} {x : Int32} (h : j ≠ k) : upd f k x j = f j := by simp [upd, h]
theorem innF {f : mM} {T : Nat → Int32} {W : Nat} (x1 : Int32) (h1 : 1 ≤ W) (hW : W ≤ 3) (h : ∀ j, j < 10 → f 42 j = T j) {N : Nat} (hN : 100 ≤ N) : ∃ f' : mM, lp_X6_countWays_53 N x1 (nI W) N (nI W) f = some f' ∧ (∀ c, c ≠ 42 → f' c = f c) ∧ ∀ j, j < 10 → f' 42 j = inn W (10 - W) W T j := by
  obtain ⟨s', e, hs⟩ := for_ex (σ := mM) (fun n k s => lp_X6_countWays_53 N x1 (nI W) n (nI k) s) 10 (fun k s => W ≤ k ∧ (∀ c, c ≠ 42 → s c = f c) ∧ ∀ j, j < 10 → s 42 j = inn W (k - W) W T j) (fun s => some s)
    (fun n k s hk hI => by
      obtain ⟨i0, i1, i2⟩ := hI
      refine ⟨st2 s 42 k (inn W (k - W) W T k + inn W (k - W) W T (k - W)), ?_, by omega, fun c hc => (st2_c hc).trans (i1 c hc), fun j hj => ?_⟩
      · show lp_X6_countWays_53 N x1 (nI W) (n + 1) (nI k) s = _
        rw [lp_X6_countWays_53_s, if_neg (show ¬ (9 : Int32) < nI k from nI_nlt (a := 9) (by omega) (by omega)), gi_in _ hk (by decide), pk_sub i0, gi_in _ (by omega) (by decide), gi_in _ hk (by decide)]
        simp only [sq]
        rw [cl_nI (by omega), cl_nI (by omega), i2 k hk, i2 (k - W) (by omega), nI_1]
      · rw [show k + 1 - W = (k - W) + 1 by omega, inn_snoc, show W + (k - W) = k by omega]
        by_cases hjk : j = k
        · subst hjk; rw [st2_e, upd_e]
        · rw [st2_k hjk, upd_n hjk]; exact i2 j hj)
    (fun n s hI => by
      show lp_X6_countWays_53 N x1 (nI W) (n + 1) (nI 10) s = _
      rw [lp_X6_countWays_53_s]
      exact if_pos (by decide))
    (10 - W) W f N (by omega) ⟨Nat.le_refl W, fun _ _ => rfl, fun j hj => by rw [Nat.sub_self]; exact h j hj⟩ (by omega)
  exact ⟨s', e, hs.2.1, hs.2.2⟩
theorem innG {g : mM} {T : Nat → Int32} {W p : Nat} (x1 : Int32) (h1 : 1 ≤ W) (hW : W ≤ 3) (hp : p < 8) (hw : g 5 p = nI W) (h : ∀ j, j < 10 → g 18 j = T j) {N : Nat} (hN : 100 ≤ N) : ∃ g' : mM, lp_X10_waysToTell_46 N x1 (nI p) N (nI W) g = some g' ∧ (∀ c, c ≠ 18 → g' c = g c) ∧ ∀ j, j < 10 → g' 18 j = inn W (10 - W) W T j := by
  obtain ⟨s', e, hs⟩ := for_ex (σ := mM) (fun n k s => lp_X10_waysToTell_46 N x1 (nI p) n (nI k) s) 10 (fun k s => W ≤ k ∧ (∀ c, c ≠ 18 → s c = g c) ∧ ∀ j, j < 10 → s 18 j = inn W (k - W) W T j) (fun s => some s)
    (fun n k s hk hI => by
      obtain ⟨i0, i1, i2⟩ := hI
      refine ⟨st2 s 18 k (inn W (k - W) W T k + inn W (k - W) W T (k - W)), ?_, by omega, fun c hc => (st2_c hc).trans (i1 c hc), fun j hj => ?_⟩
      · show lp_X10_waysToTell_46 N x1 (nI p) (n + 1) (nI k) s = _
        rw [lp_X10_waysToTell_46_s, if_neg (show ¬ (10 : Int32) ≤ nI k from nI_ge (b := 10) hk (by decide)), gi_in _ hk (by decide), gi_in _ hp (by decide), cl_nI (i := p) (by omega), i1 5 (by decide), hw, pk_sub i0, gi_in _ (by omega) (by decide), gi_in _ hk (by decide)]
        simp only [sq]
        rw [cl_nI (by omega), cl_nI (by omega), i2 k hk, i2 (k - W) (by omega), nI_1]
      · rw [show k + 1 - W = (k - W) + 1 by omega, inn_snoc, show W + (k - W) = k by omega]
        by_cases hjk : j = k
        · subst hjk; rw [st2_e, upd_e]
        · rw [st2_k hjk, upd_n hjk]; exact i2 j hj)
    (fun n s hI => by
      show lp_X10_waysToTell_46 N x1 (nI p) (n + 1) (nI 10) s = _
      rw [lp_X10_waysToTell_46_s]
      exact if_pos (by decide))
    (10 - W) W g N (by omega) ⟨Nat.le_refl W, fun _ _ => rfl, fun j hj => by rw [Nat.sub_self]; exact h j hj⟩ (by omega)
  exact ⟨s', e, hs.2.1, hs.2.2⟩
theorem countF {f : mM} {M : tM} (hw : WF M) (hf : TF f M) {N : Nat} (hN : 100 ≤ N) : ∃ f' : mM, q_X6_countWays N f = some f' ∧ (∀ c, c ≠ 42 → f' c = f c) ∧ ∀ j, j < 10 → f' 42 j = ot (M 4) (M 0 2) j := by
  have hb := hw.1
  obtain ⟨f1, e1, a0, a1, a2⟩ := for_ex (σ := mM) (fun n k s => lp_X6_countWays_9 N n (nI k) s) 10 (fun k s => 1 ≤ k ∧ (∀ c, c ≠ 42 → s c = f c) ∧ ∀ j, j < k → s 42 j = ot (M 4) 0 j) (fun s => some s)
    (fun n k s hk hI => by
      obtain ⟨i0, i1, i2⟩ := hI
      refine ⟨st2 s 42 k 0, ?_, by omega, fun c hc => (st2_c hc).trans (i1 c hc), fun j hj => ?_⟩
      · show lp_X6_countWays_9 N (n + 1) (nI k) s = _
        rw [lp_X6_countWays_9_s, if_neg (show ¬ (9 : Int32) < nI k from nI_nlt (a := 9) (by omega) (by omega)), gi_in _ hk (by decide)]
        simp only [sq]
        rw [cl_nI (by omega), nI_1]
      · by_cases hjk : j = k
        · subst hjk
          rw [st2_e]
          show 0 = if j = 0 then (1 : Int32) else 0
          rw [if_neg (by omega)]
        · rw [st2_k hjk]; exact i2 j (by omega))
    (fun n s hI => by
      show lp_X6_countWays_9 N (n + 1) (nI 10) s = _
      rw [lp_X6_countWays_9_s]
      exact if_pos (by decide))
    9 1 (st2 f 42 0 1) N rfl ⟨Nat.le_refl 1, fun c hc => st2_c hc, fun j hj => by rw [show j = 0 by omega, st2_e]; rfl⟩ (by omega)
  obtain ⟨f2, e2, b1, b2⟩ := for_ex (σ := mM) (fun n k s => lp_X6_countWays_30 N n (nI k) s) (M 0 2) (fun k s => (∀ c, c ≠ 42 → s c = f c) ∧ ∀ j, j < 10 → s 42 j = ot (M 4) k j) (fun s => some s)
    (fun n k s hk hI => by
      obtain ⟨i1, i2⟩ := hI
      have w1 := hf.2.2.1 k hk
      have w3 := hw.2.2.1 k hk
      obtain ⟨s2, q1, q2, q3⟩ := innF (f := s) (T := ot (M 4) k) (nI k) w3.1 w3.2.1 i2 (N := N) hN
      refine ⟨s2, ?_, fun c hc => (q2 c hc).trans (i1 c hc), q3⟩
      show lp_X6_countWays_30 N (n + 1) (nI k) s = _
      rw [lp_X6_countWays_30_s, i1 3 (by decide), hf.1.2.2.1, if_neg (nI_ge hk (by omega)), gi_in _ (by omega) (by decide)]
      simp only [sq]
      rw [cl_nI (by omega), i1 7 (by decide), w1.1, q1, bi_some, nI_1])
    (fun n s hI => by
      show lp_X6_countWays_30 N (n + 1) (nI (M 0 2)) s = _
      rw [lp_X6_countWays_30_s, hI.1 3 (by decide), hf.1.2.2.1]
      exact if_pos (Int32.le_refl _))
    (M 0 2) 0 f1 N (by omega) ⟨a1, a2⟩ (by omega)
  refine ⟨f2, ?_, b1, b2⟩
  unfold q_X6_countWays
  rw [gi_lit (i := 0) (n := 10) _ (by decide), show Int32.toNatClampNeg 0 = 0 from by decide]
  simp only [sq]
  rw [show lp_X6_countWays_9 N N 1 (st2 f 42 0 1) = some f1 from e1, bi_some, show lp_X6_countWays_30 N N 0 f1 = some f2 from e2, bi_some]
theorem waysG {g : mM} {M : tM} (hw : WF M) (hg : TG g M) {v : Nat} (hv : v < 10) {N : Nat} (hN : 100 ≤ N) : ∃ g' : mM, q_X10_waysToTell N (nI v) g = some (ot (M 4) (M 0 2) v, g') ∧ ∀ c, c ≠ 18 → g' c = g c := by
  have hb := hw.1
  obtain ⟨g1, e1, a1, a2⟩ := for_ex (σ := mM) (fun n k s => lp_X10_waysToTell_2 N (nI v) n (nI k) s) 10 (fun k s => (∀ c, c ≠ 18 → s c = g c) ∧ ∀ j, j < k → s 18 j = ot (M 4) 0 j) (fun s => some s)
    (fun n k s hk hI => by
      obtain ⟨i1, i2⟩ := hI
      refine ⟨st2 s 18 k (ot (M 4) 0 k), ?_, fun c hc => (st2_c hc).trans (i1 c hc), fun j hj => ?_⟩
      · show lp_X10_waysToTell_2 N (nI v) (n + 1) (nI k) s = _
        rw [lp_X10_waysToTell_2_s, if_neg (show ¬ (10 : Int32) ≤ nI k from nI_ge (b := 10) hk (by decide))]
        simp only [sq]
        by_cases c : k = 0
        · rw [if_pos (show nI k = 0 by rw [c]; rfl), gi_in _ hk (by decide), cl_nI (by omega), nI_1, show ot (M 4) 0 k = 1 from if_pos c]
        · rw [if_neg (nI_ne0 (by omega) (by omega)), gi_in _ hk (by decide), cl_nI (by omega), nI_1, show ot (M 4) 0 k = 0 from if_neg c]
      · by_cases hjk : j = k
        · subst hjk; exact st2_e
        · rw [st2_k hjk]; exact i2 j (by omega))
    (fun n s hI => by
      show lp_X10_waysToTell_2 N (nI v) (n + 1) (nI 10) s = _
      rw [lp_X10_waysToTell_2_s]
      exact if_pos (by decide))
    10 0 g N rfl ⟨fun _ _ => rfl, fun j hj => absurd hj (by omega)⟩ (by omega)
  obtain ⟨g2, e2, b1, b2⟩ := for_ex (σ := mM) (fun n k s => lp_X10_waysToTell_31 N (nI v) n (nI k) s) (M 0 2) (fun k s => (∀ c, c ≠ 18 → s c = g c) ∧ ∀ j, j < 10 → s 18 j = ot (M 4) k j) (fun s => some s)
    (fun n k s hk hI => by
      obtain ⟨i1, i2⟩ := hI
      have w1 := hg.2.2.1 k hk
      have w3 := hw.2.2.1 k hk
      obtain ⟨s2, q1, q2, q3⟩ := innG (g := s) (T := ot (M 4) k) (p := k) (nI v) w3.1 w3.2.1 (by omega) (by rw [i1 5 (by decide)]; exact w1.1) i2 (N := N) hN
      refine ⟨s2, ?_, fun c hc => (q2 c hc).trans (i1 c hc), q3⟩
      show lp_X10_waysToTell_31 N (nI v) (n + 1) (nI k) s = _
      rw [lp_X10_waysToTell_31_s, i1 0 (by decide), hg.1.2.2.1, if_neg (nI_ge hk (by omega)), gi_in _ (by omega) (by decide)]
      simp only [sq]
      rw [cl_nI (by omega), i1 5 (by decide), w1.1, q1, bi_some, nI_1])
    (fun n s hI => by
      show lp_X10_waysToTell_31 N (nI v) (n + 1) (nI (M 0 2)) s = _
      rw [lp_X10_waysToTell_31_s, hI.1 0 (by decide), hg.1.2.2.1]
      exact if_pos (Int32.le_refl _))
    (M 0 2) 0 g1 N (by omega) ⟨a1, a2⟩ (by omega)
  refine ⟨g2, ?_, b1⟩
  unfold q_X10_waysToTell
  rw [show lp_X10_waysToTell_2 N (nI v) N 0 g = some g1 from e1, bi_some, show lp_X10_waysToTell_31 N (nI v) N 0 g1 = some g2 from e2, bi_some, gi_in _ hv (by decide), cl_nI (by omega), b2 v hv]
def pr (T : Nat → Int32) (D : Nat → Nat) : Nat → Int64
  | 0 => 1
  | k + 1 => pr T D k * (T (D k)).toInt64
theorem tellG {np : Nat} {g : mM} {M : tM} {D : Nat → Nat} {i : Nat} (hw : WF M) (hg : TG g M) (hD : ∀ k, D k < 10) (h : ∀ (g' : mM), (∀ c, c ≠ 18 → g' c = g c) → ∀ k, k < 9 → q_X10_spentOf (nI i) (nI k) g' = some (nI (D k))) {N : Nat} (hN : 100 ≤ N) : ∃ g' : mM, lp_X10_tell_36 N (nI i) N 1 0 g = some (pr (ot (M 4) (M 0 2)) D (M 0 1), g') ∧ ∀ c, c ≠ 18 → g' c = g c := by
  have hb := hw.1
  obtain ⟨s', e, hs⟩ := for_ex (σ := Int64 × mM) (fun n k s => lp_X10_tell_36 N (nI i) n s.1 (nI k) s.2) (M 0 1) (fun k s => s.1 = pr (ot (M 4) (M 0 2)) D k ∧ ∀ c, c ≠ 18 → s.2 c = g c) (fun s => some (s.1, s.2))
    (fun n k s hk hI => by
      obtain ⟨i1, i2⟩ := hI
      obtain ⟨s2, q1, q2⟩ := waysG (g := s.2) hw (hg.go (fun c a b => i2 c (by omega)) (fun k a b => by rw [i2 0 (by decide)])) (hD k) (N := N) hN
      refine ⟨(s.1 * (ot (M 4) (M 0 2) (D k)).toInt64, s2), ?_, ?_, fun c hc => (q2 c hc).trans (i2 c hc)⟩
      · show lp_X10_tell_36 N (nI i) (n + 1) s.1 (nI k) s.2 = _
        rw [lp_X10_tell_36_s, i2 0 (by decide), hg.1.2.1, if_neg (nI_ge hk (by omega)), h s.2 i2 k (by omega), bi_some, q1, bi2_some]
        simp only [sq]
        rw [nI_1]
      · show s.1 * _ = pr _ _ (k + 1)
        rw [i1]; rfl)
    (fun n s hI => by
      show lp_X10_tell_36 N (nI i) (n + 1) s.1 (nI (M 0 1)) s.2 = _
      rw [lp_X10_tell_36_s, hI.2 0 (by decide), hg.1.2.1]
      exact if_pos (Int32.le_refl _))
    (M 0 1) 0 (1, g) N (by omega) ⟨rfl, fun _ _ => rfl⟩ (by omega)
  exact ⟨s'.2, by rw [show lp_X10_tell_36 N (nI i) N 1 0 g = some (s'.1, s'.2) from e, hs.1], hs.2⟩
theorem tellF0 {f : mM} {np : Nat} {T : Nat → Int32} {D : Nat → Nat} (hp : f 3 1 = nI np) (hn : np ≤ 9) (hD : ∀ k, D k < 10) (h : ∀ k, k < 9 → q_X6_spentBy_41_28 (nI k) f = some (nI (D k))) (hT : ∀ j, j < 10 → f 42 j = T j) {N : Nat} (hN : 100 ≤ N) : lp_X6_waysToTell_41_28_9 N f N 1 0 = some (pr T D np) := by
  obtain ⟨s', e, hs⟩ := for_ex (σ := Int64) (fun n k s => lp_X6_waysToTell_41_28_9 N f n s (nI k)) np (fun k s => s = pr T D k) (fun s => some s)
    (fun n k s hk hI => by
      have hd := hD k
      refine ⟨s * (T (D k)).toInt64, ?_, by subst hI; rfl⟩
      show lp_X6_waysToTell_41_28_9 N f (n + 1) s (nI k) = _
      rw [lp_X6_waysToTell_41_28_9_s, hp, if_neg (nI_ge hk (by omega)), h k (by omega), bi_some]
      simp only [sq]
      rw [if_neg (show ¬ (9 : Int32) < nI (D k) from nI_nlt (a := 9) (by omega) (by omega)), gi_in _ hd (by decide), cl_nI (by omega), hT _ hd, nI_1])
    (fun n s hI => by
      show lp_X6_waysToTell_41_28_9 N f (n + 1) s (nI np) = _
      rw [lp_X6_waysToTell_41_28_9_s, hp]
      exact if_pos (Int32.le_refl _))
    np 0 1 N (by omega) rfl (by omega)
  rw [show lp_X6_waysToTell_41_28_9 N f N 1 0 = some s' from e, hs]
theorem tellF1 {f : mM} {np : Nat} {T : Nat → Int32} {D : Nat → Nat} (hp : f 3 1 = nI np) (hn : np ≤ 9) (hD : ∀ k, D k < 10) (h : ∀ k, k < 9 → q_X6_spentBy_41_32 (nI k) f = some (nI (D k))) (hT : ∀ j, j < 10 → f 42 j = T j) {N : Nat} (hN : 100 ≤ N) : lp_X6_waysToTell_41_32_9 N f N 1 0 = some (pr T D np) := by
  obtain ⟨s', e, hs⟩ := for_ex (σ := Int64) (fun n k s => lp_X6_waysToTell_41_32_9 N f n s (nI k)) np (fun k s => s = pr T D k) (fun s => some s)
    (fun n k s hk hI => by
      have hd := hD k
      refine ⟨s * (T (D k)).toInt64, ?_, by subst hI; rfl⟩
      show lp_X6_waysToTell_41_32_9 N f (n + 1) s (nI k) = _
      rw [lp_X6_waysToTell_41_32_9_s, hp, if_neg (nI_ge hk (by omega)), h k (by omega), bi_some]
      simp only [sq]
      rw [if_neg (show ¬ (9 : Int32) < nI (D k) from nI_nlt (a := 9) (by omega) (by omega)), gi_in _ hd (by decide), cl_nI (by omega), hT _ hd, nI_1])
    (fun n s hI => by
      show lp_X6_waysToTell_41_32_9 N f (n + 1) s (nI np) = _
      rw [lp_X6_waysToTell_41_32_9_s, hp]
      exact if_pos (Int32.le_refl _))
    np 0 1 N (by omega) rfl (by omega)
  rw [show lp_X6_waysToTell_41_32_9 N f N 1 0 = some s' from e, hs]
def dd (S2 S : Nat → Nat) (k : Nat) : Nat := if k < 9 then S2 k - S k else 0
theorem sim_tell {N : Nat} (hN : 1000 ≤ N) : S_tell Inv N := by
  intro f t g u hI x1
  have hI2 := hI.thr 0
  obtain ⟨h0, h1, M, hw, hf, hg, ⟨S, w, hn⟩, hk0, hk1⟩ := id hI2
  have hb := hw.1
  obtain ⟨f1, e1, a1, a2⟩ := countF hw hf (N := N) (by omega)
  unfold q_X9_tell q_X10_tell
  simp only [sq]
  rcases wh2 x1 with rfl | rfl | ⟨c0, c1, c2⟩
  · rw [show q_X9_isImage 0 = some 1 from by decide, show q_X10_in 0 0 1 = some 1 from by decide, bi_some, bi_some, if_neg z10, if_neg z10, gi_lit (i := 0) (n := 2) _ (by decide), gi_lit (i := 0) (n := 2) _ (by decide), show Int32.toNatClampNeg 0 = 0 from by decide]
    obtain ⟨z, z1, z2, z3⟩ := id hk0
    rw [z1, z2]
    rcases z3 with rfl | ⟨rfl, S2, w2, hn2⟩
    · rw [if_pos rfl, if_pos rfl]
      exact ⟨-2, _, _, rfl, rfl, hI2⟩
    · have hD : ∀ k, dd S2 S k < 10 := fun k => by
        unfold dd
        by_cases c : k < 9
        · rw [if_pos c]; have := hn2.1 k c; omega
        · rw [if_neg c]; omega
      obtain ⟨g', q1, q2⟩ := tellG (np := M 0 1) (g := st2 g 0 0 0) (i := 0) (D := dd S2 S) hw hg hD (fun g' hg' k hk => by
        rw [dd, if_pos hk]
        exact spentOfG (f := f) (by omega) (hn.go rfl rfl rfl rfl (hg' 8 (by decide))) (hn2.go rfl rfl rfl rfl (hg' 9 (by decide))) hk) (N := N) (by omega)
      have q1 : lp_X10_tell_36 N 0 N 1 0 (st2 g 0 0 0) = _ := q1
      have q3 := tellF0 (f := f1) (T := ot (M 4) (M 0 2)) (D := dd S2 S) (np := M 0 1) (by rw [a1 3 (by decide)]; exact hf.1.2.1) (by omega) hD (fun k hk => by
        rw [dd, if_pos hk]
        exact spentByF0 (g := st2 g 0 0 0) (hn.go (by rw [a1 _ (by decide)]) (a1 _ (by decide)) (a1 _ (by decide)) (a1 _ (by decide)) rfl) (hn2.go (by rw [a1 _ (by decide)]) (a1 _ (by decide)) (a1 _ (by decide)) (a1 _ (by decide)) rfl) hk) a2 (N := N) (by omega)
      rw [if_neg z10, if_neg z10, if_pos rfl, q1, bi2_some]
      unfold q_X6_waysToTell_41_28
      rw [e1, bi_some, q3, bi_some, bi2_some]
      exact ⟨_, _, _, rfl, rfl, hI2.scr (fun c hc => a1 c (by omega)) (fun k _ => by rw [q2 0 (by decide)]) (fun c h1 h2 => q2 c (by omega))⟩
  · rw [show q_X9_isImage 1 = some 1 from by decide, show q_X10_in 1 0 1 = some 1 from by decide, bi_some, bi_some, if_neg z10, if_neg z10, if_neg z10, gi_lit (i := 1) (n := 2) _ (by decide), gi_lit (i := 1) (n := 2) _ (by decide), show Int32.toNatClampNeg 1 = 1 from by decide]
    obtain ⟨z, z1, z2, z3⟩ := id hk1
    rw [z1, z2]
    rcases z3 with rfl | ⟨rfl, S2, w2, hn2⟩
    · rw [if_pos rfl, if_pos rfl]
      exact ⟨-2, _, _, rfl, rfl, hI2⟩
    · have hD : ∀ k, dd S2 S k < 10 := fun k => by
        unfold dd
        by_cases c : k < 9
        · rw [if_pos c]; have := hn2.1 k c; omega
        · rw [if_neg c]; omega
      obtain ⟨g', q1, q2⟩ := tellG (np := M 0 1) (g := st2 g 0 0 0) (i := 1) (D := dd S2 S) hw hg hD (fun g' hg' k hk => by
        rw [dd, if_pos hk]
        exact spentOfG (f := f) (by omega) (hn.go rfl rfl rfl rfl (hg' 8 (by decide))) (hn2.go rfl rfl rfl rfl (hg' 9 (by decide))) hk) (N := N) (by omega)
      have q1 : lp_X10_tell_36 N 1 N 1 0 (st2 g 0 0 0) = _ := q1
      have q3 := tellF1 (f := f1) (T := ot (M 4) (M 0 2)) (D := dd S2 S) (np := M 0 1) (by rw [a1 3 (by decide)]; exact hf.1.2.1) (by omega) hD (fun k hk => by
        rw [dd, if_pos hk]
        exact spentByF1 (g := st2 g 0 0 0) (hn.go (by rw [a1 _ (by decide)]) (a1 _ (by decide)) (a1 _ (by decide)) (a1 _ (by decide)) rfl) (hn2.go (by rw [a1 _ (by decide)]) (a1 _ (by decide)) (a1 _ (by decide)) (a1 _ (by decide)) rfl) hk) a2 (N := N) (by omega)
      rw [if_neg z10, if_neg z10, if_pos rfl, q1, bi2_some]
      unfold q_X6_waysToTell_41_32
      rw [e1, bi_some, q3, bi_some, bi2_some]
      exact ⟨_, _, _, rfl, rfl, hI2.scr (fun c hc => a1 c (by omega)) (fun k _ => by rw [q2 0 (by decide)]) (fun c h1 h2 => q2 c (by omega))⟩
  · rw [isImage_eq, in_eq, bi_some, bi_some, if_neg c0, if_pos rfl, if_pos rfl]
    exact ⟨-1, _, _, rfl, rfl, hI2⟩
