/-! frost -/
def fz (S : Nat → Nat) (k : Nat) : Nat := if 1 ≤ S k ∧ S k ≤ 8 then S k + 1 else S k
def fzB (S : Nat → Nat) (k : Nat) : Bool := decide (1 ≤ S k ∧ S k ≤ 8)
theorem freezeF {f : mM} {S : Nat → Nat} (h1 : ∀ k, k < 9 → S k ≤ 9) (h : ∀ k, k < 9 → f 24 k = nI (S k)) {N : Nat} (hN : 100 ≤ N) : ∃ f' : mM, q_X3_freeze N f = some (nI (cn (fzB S) 9), f') ∧ (∀ c, c ≠ 24 → f' c = f c) ∧ ∀ k, k < 9 → f' 24 k = nI (fz S k) := by
  obtain ⟨s', e, hs⟩ := for_ex (σ := Nat × mM) (fun n k s => lp_X3_freeze_4 N n (nI s.1) (nI k) s.2) 9 (fun k s => s.1 = cn (fzB S) k ∧ (∀ c, c ≠ 24 → s.2 c = f c) ∧ ∀ j, j < 9 → s.2 24 j = nI (if j < k then fz S j else S j)) (fun s => some (nI s.1, s.2))
    (fun n k s hk hI => by
      obtain ⟨i1, i2, i3⟩ := hI
      have hv := i3 k hk
      rw [if_neg (by omega)] at hv
      have hb := h1 k hk
      have step : lp_X3_freeze_4 N (n + 1) (nI s.1) (nI k) s.2 = _ := lp_X3_freeze_4_s N n (nI s.1) (nI k) s.2
      rw [if_neg (ge9 hk), gi_in _ hk (by decide), gi_in _ hk (by decide), gi_in _ hk (by decide), gi_in _ hk (by decide), cl_nI (by omega), hv] at step
      simp only [sq] at step
      by_cases c : 1 ≤ S k ∧ S k ≤ 8
      · refine ⟨(s.1 + 1, st2 s.2 24 k (nI (S k + 1))), ?_, ?_, fun d hd => (st2_c (f := s.2) hd).trans (i2 d hd), fun j hj => ?_⟩
        · show lp_X3_freeze_4 N (n + 1) (nI s.1) (nI k) s.2 = _
          rw [step, if_neg (nI_nle (by omega) (by omega)), if_neg (ge9 (by omega)), nI_1, nI_1, nI_1]
        · show s.1 + 1 = cn (fzB S) (k + 1)
          simp [cn, fzB, c, i1]
        · by_cases hjk : j = k
          · subst hjk
            show st2 s.2 24 j (nI (S j + 1)) 24 j = _
            rw [st2_e, if_pos (by omega), fz, if_pos c]
          · show st2 s.2 24 k (nI (S k + 1)) 24 j = _
            rw [st2_k hjk, i3 j hj]
            by_cases hj2 : j < k
            · rw [if_pos hj2, if_pos (by omega)]
            · rw [if_neg hj2, if_neg (by omega)]
      · refine ⟨(s.1, s.2), ?_, ?_, i2, fun j hj => ?_⟩
        · show lp_X3_freeze_4 N (n + 1) (nI s.1) (nI k) s.2 = _
          rw [step]
          by_cases c0 : S k = 0
          · rw [c0, if_pos (by decide), nI_1]
          · have c9 : S k = 9 := by omega
            rw [c9, if_neg (by decide), if_pos (by decide), nI_1]
        · show s.1 = cn (fzB S) (k + 1)
          simp [cn, fzB, c, i1]
        · rw [i3 j hj]
          by_cases hjk : j = k
          · subst hjk
            rw [if_neg (by omega), if_pos (by omega), fz, if_neg c]
          · by_cases hj2 : j < k
            · rw [if_pos hj2, if_pos (by omega)]
            · rw [if_neg hj2, if_neg (by omega)])
    (fun n s hI => by
      show lp_X3_freeze_4 N (n + 1) (nI s.1) (nI 9) s.2 = _
      rw [lp_X3_freeze_4_s]
      exact if_pos (Int32.le_refl _))
    9 0 (0, f) N rfl ⟨rfl, fun _ _ => rfl, fun j hj => by rw [if_neg (by omega)]; exact h j hj⟩ (by omega)
  obtain ⟨i1, i2, i3⟩ := hs
  refine ⟨s'.2, ?_, i2, fun k hk => by rw [i3 k hk, if_pos hk]⟩
  unfold q_X3_freeze
  rw [show lp_X3_freeze_4 N N 0 0 f = some (nI s'.1, s'.2) from e, bi2_some, i1]
theorem frostG {g : mM} {S : Nat → Nat} {np : Nat} (hp : g 0 16 = nI np) (hn : np ≤ 9) (h1 : ∀ k, k < 9 → S k ≤ 9) (h : ∀ k, k < 9 → g 8 k = nI (S k)) {N : Nat} (hN : 100 ≤ N) : ∃ g' : mM, lp_X10_frost_9 N N 0 0 g = some (nI (cn (fzB S) np), g') ∧ (∀ c, c ≠ 8 → g' c = g c) ∧ (∀ k, k < np → g' 8 k = nI (fz S k)) ∧ ∀ k, np ≤ k → g' 8 k = g 8 k := by
  obtain ⟨s', e, hs⟩ := for_ex (σ := Nat × mM) (fun n k s => lp_X10_frost_9 N n (nI s.1) (nI k) s.2) np (fun k s => s.1 = cn (fzB S) k ∧ (∀ c, c ≠ 8 → s.2 c = g c) ∧ (∀ j, j < k → s.2 8 j = nI (fz S j)) ∧ ∀ j, k ≤ j → s.2 8 j = g 8 j) (fun s => some (nI s.1, s.2))
    (fun n k s hk hI => by
      obtain ⟨i1, i2, i3, i4⟩ := hI
      have hv := i4 k (Nat.le_refl k)
      rw [h k (by omega)] at hv
      have hb := h1 k (by omega)
      have step : lp_X10_frost_9 N (n + 1) (nI s.1) (nI k) s.2 = _ := lp_X10_frost_9_s N n (nI s.1) (nI k) s.2
      rw [i2 0 (by decide), hp, if_neg (nI_ge hk (by omega)), gi_in _ (by omega) (by decide), cl_nI (by omega), hv, in_eq, bi_some, gi_in _ (by omega) (by decide)] at step
      simp only [sq] at step
      rw [gi_in _ (by omega) (by decide), gi_in _ (by omega) (by decide)] at step
      refine ⟨(s.1 + (if fzB S k then 1 else 0), st2 s.2 8 k (nI (fz S k))), ?_, ?_, fun d hd => (st2_c (f := s.2) hd).trans (i2 d hd), fun j hj => ?_, fun j hj => ?_⟩
      · show lp_X10_frost_9 N (n + 1) (nI s.1) (nI k) s.2 = _
        rw [step]
        by_cases c : 1 ≤ S k ∧ S k ≤ 8
        · rw [if_pos (show (1 : Int32) ≤ nI (S k) ∧ nI (S k) ≤ 8 from ⟨nI_le (a := 1) c.1 (by omega), nI_le (b := 8) c.2 (by omega)⟩)]
          simp only [if_neg z10]
          rw [show fz S k = S k + 1 from if_pos c, show fzB S k = true from by simp [fzB, c], nI_1, nI_1, nI_1]
          rfl
        · rw [if_neg (show ¬ ((1 : Int32) ≤ nI (S k) ∧ nI (S k) ≤ 8) from fun hh => c ⟨(nI_leI (a := 1) (by omega) (by omega)).mp hh.1, (nI_leI (b := 8) (by omega) (by omega)).mp hh.2⟩)]
          simp only [if_true]
          rw [show fz S k = S k from if_neg c, show fzB S k = false from by simp [fzB, c], nI_1, show nI (S k) + 0 = nI (S k) from nI_add _ 0, show nI s.1 + 0 = nI s.1 from nI_add _ 0]
          rfl
      · show s.1 + (if fzB S k then 1 else 0) = cn (fzB S) (k + 1)
        rw [i1]; rfl
      · by_cases hjk : j = k
        · subst hjk
          show st2 s.2 8 j (nI (fz S j)) 8 j = _
          exact st2_e
        · show st2 s.2 8 k (nI (fz S k)) 8 j = _
          exact (st2_k hjk).trans (i3 j (by omega))
      · show st2 s.2 8 k (nI (fz S k)) 8 j = _
        exact (st2_k (by omega)).trans (i4 j (by omega)))
    (fun n s hI => by
      show lp_X10_frost_9 N (n + 1) (nI s.1) (nI np) s.2 = _
      rw [lp_X10_frost_9_s, hI.2.1 0 (by decide), hp]
      exact if_pos (Int32.le_refl _))
    np 0 (0, g) N (by omega) ⟨rfl, fun _ _ => rfl, fun j hj => absurd hj (by omega), fun _ _ => rfl⟩ (by omega)
  obtain ⟨i1, i2, i3, i4⟩ := hs
  exact ⟨s'.2, by rw [show lp_X10_frost_9 N N 0 0 g = some (nI s'.1, s'.2) from e, i1], i2, i3, i4⟩
theorem sim_frost {N : Nat} (hN : 1000 ≤ N) : S_frost Inv N := by
  intro f t g u hI
  have hI2 := hI.thr 0
  obtain ⟨h0, h1, M, hw, hf, hg, ⟨S, w, hn⟩, hk0, hk1⟩ := id hI2
  have hb := hw.1
  obtain ⟨n1, n2, n3, n4, n5, n6, n7⟩ := id hn
  have n8 : ∀ k, k < 9 → f 24 k = nI (S k) := fun k hk => (n4 k hk).1
  have n9 : ∀ k, k < 9 → st2 g 0 0 0 8 k = nI (S k) := fun k hk => by have := (n4 k hk).2; rwa [Nat.zero_add] at this
  obtain ⟨f', e1, a1, a2⟩ := freezeF n1 n8 (N := N) (by omega)
  obtain ⟨g', e2, b1, b2, b3⟩ := frostG hg.1.2.1 (by omega) n1 n9 (N := N) (by omega)
  have hfz : ∀ k, M 0 1 ≤ k → k < 9 → fz S k = 0 := fun k h1 h2 => by rw [fz, n2 k h1 h2]; rfl
  refine ⟨nI (cn (fzB S) 9), f', g', ?_, ?_, hI2.bears (S := fz S) (w := w) hw hf hg a1 b1 ⟨fun k hk => ?_, hfz, n3, fun k hk => ⟨a2 k hk, ?_⟩, by rw [a1 23 (by decide)]; exact n5, ?_, fun i hi => ?_⟩ hk0 hk1⟩
  · unfold q_X9_frost
    rw [e1, bi2_some]
  · unfold q_X10_frost
    simp only [sq]
    rw [e2, bi2_some, cn9 (np := M 0 1) (by omega) (fun k h1 h2 => by simp [fzB, n2 k h1 h2])]
  · have := n1 k hk
    unfold fz
    split <;> omega
  · rw [Nat.zero_add]
    by_cases hkp : k < M 0 1
    · exact b2 k hkp
    · rw [b3 k (by omega), n9 k hk, hfz k (by omega) hk, n2 k (by omega) hk]
  · rw [b3 _ (by omega)]; exact n6
  · have := n7 i hi
    rw [a1 _ (by decide), a1 _ (by decide), b3 _ (by omega), b3 _ (by omega)]
    exact this
