theorem ge9 {k : Nat} (h : k < 9) : ¬ (9 : Int32) ≤ nI k := nI_ge (b := 9) h (by decide)
/-- a loop that counts up to m -/
theorem for_ex {σ ρ : Type} (L : Nat → Nat → σ → Option ρ) (m : Nat) (I : Nat → σ → Prop) (fin : σ → Option ρ) (hs : ∀ n k s, k < m → I k s → ∃ s', L (n + 1) k s = L n (k + 1) s' ∧ I (k + 1) s') (hx : ∀ n s, I m s → L (n + 1) m s = fin s) : ∀ c k s n, k + c = m → I k s → c < n → ∃ s', L n k s = fin s' ∧ I m s' := by
  intro c
  induction c with
  | zero =>
    intro k s n hk hI hn
    obtain ⟨n, rfl⟩ : ∃ j, n = j + 1 := ⟨n - 1, by omega⟩
    have hk : k = m := by omega
    subst hk
    exact ⟨s, hx n s hI, hI⟩
  | succ c ih =>
    intro k s n hk hI hn
    obtain ⟨n, rfl⟩ : ∃ j, n = j + 1 := ⟨n - 1, by omega⟩
    obtain ⟨s', e, hI'⟩ := hs n k s (by omega) hI
    obtain ⟨s2, e2, h2⟩ := ih (k + 1) s' n (by omega) hI' (by omega)
    exact ⟨s2, e.trans e2, h2⟩
def cn (P : Nat → Bool) : Nat → Nat
  | 0 => 0
  | k + 1 => cn P k + if P k then 1 else 0
def sm (S : Nat → Nat) : Nat → Nat
  | 0 => 0
  | k + 1 => sm S k + S k
theorem cn_le (P : Nat → Bool) (k : Nat) : cn P k ≤ k := by
  induction k with
  | zero => exact Nat.le_refl 0
  | succ k ih => unfold cn; split <;> omega
theorem cn_tail {P : Nat → Bool} {a : Nat} (h : ∀ k, a ≤ k → k < 9 → P k = false) : ∀ c, a + c ≤ 9 → cn P (a + c) = cn P a := by
  intro c
  induction c with
  | zero => intro _; rfl
  | succ c ih =>
    intro hc
    show cn P (a + c) + (if P (a + c) = true then 1 else 0) = cn P a
    rw [h (a + c) (by omega) (by omega), ih (by omega)]
    rfl
theorem sm_tail {S : Nat → Nat} {a : Nat} (h : ∀ k, a ≤ k → k < 9 → S k = 0) : ∀ c, a + c ≤ 9 → sm S (a + c) = sm S a := by
  intro c
  induction c with
  | zero => intro _; rfl
  | succ c ih =>
    intro hc
    show sm S (a + c) + S (a + c) = sm S a
    rw [h (a + c) (by omega) (by omega), ih (by omega)]
    rfl
theorem sm_le {S : Nat → Nat} (h : ∀ k, k < 9 → S k ≤ 9) : ∀ k, k ≤ 9 → sm S k ≤ 9 * k := by
  intro k
  induction k with
  | zero => intro _; exact Nat.le_refl 0
  | succ k ih =>
    intro hk
    have h1 := ih (by omega)
    have h2 := h k (by omega)
    show sm S k + S k ≤ 9 * (k + 1)
    omega
theorem nI_le9 {a b : Nat} (ha : a < 2 ^ 31) (hb : b < 2 ^ 31) : nI a ≤ nI b ↔ a ≤ b := nI_leI ha hb
/-- what planks bear, in all: the class -/
theorem borneF {f : mM} {S : Nat → Nat} (h : ∀ k, k < 9 → f 24 k = nI (S k)) {N : Nat} (hN : 100 ≤ N) : q_X3_borneByAll N f = some (nI (sm S 9)) := by
  unfold q_X3_borneByAll
  obtain ⟨s', e, hs⟩ := for_ex (σ := Nat) (fun n k s => lp_X3_borneByAll_4 N f n (nI s) (nI k)) 9 (fun k s => s = sm S k) (fun s => some (nI s))
    (fun n k s hk hI => by
      refine ⟨s + S k, ?_, by subst hI; rfl⟩
      show lp_X3_borneByAll_4 N f (n + 1) (nI s) (nI k) = _
      rw [lp_X3_borneByAll_4_s, if_neg (ge9 hk), gi_in _ hk (by decide)]
      simp only [sq]
      rw [cl_nI (by omega), h k hk, nI_add, nI_1])
    (fun n s hI => by
      show lp_X3_borneByAll_4 N f (n + 1) (nI s) (nI 9) = _
      rw [lp_X3_borneByAll_4_s]
      exact if_pos (Int32.le_refl _))
    9 0 0 N rfl rfl (by omega)
  rw [show lp_X3_borneByAll_4 N f N 0 0 = some (nI s') from e, bi_some, hs]
theorem bornG {g : mM} {S : Nat → Nat} {np : Nat} (hp : g 0 16 = nI np) (hn : np ≤ 9) (h : ∀ k, k < 9 → g 8 k = nI (S k)) {N : Nat} (hN : 100 ≤ N) : q_X10_bornNow N g = some (nI (sm S np)) := by
  unfold q_X10_bornNow
  obtain ⟨s', e, hs⟩ := for_ex (σ := Nat) (fun n k s => lp_X10_bornNow_4 N g n (nI s) (nI k)) np (fun k s => s = sm S k) (fun s => some (nI s))
    (fun n k s hk hI => by
      refine ⟨s + S k, ?_, by subst hI; rfl⟩
      show lp_X10_bornNow_4 N g (n + 1) (nI s) (nI k) = _
      rw [lp_X10_bornNow_4_s, hp, if_neg (nI_ge hk (by omega)), gi_in _ (by omega) (by decide)]
      simp only [sq]
      rw [cl_nI (by omega), h k (by omega), nI_add, nI_1])
    (fun n s hI => by
      show lp_X10_bornNow_4 N g (n + 1) (nI s) (nI np) = _
      rw [lp_X10_bornNow_4_s, hp]
      exact if_pos (Int32.le_refl _))
    np 0 0 N (by omega) rfl (by omega)
  rw [show lp_X10_bornNow_4 N g N 0 0 = some (nI s') from e, bi_some, hs]
/-- how many planks bear a weight: the class -/
theorem howManyF {f : mM} {S : Nat → Nat} (h1 : ∀ k, k < 9 → S k ≤ 9) (h : ∀ k, k < 9 → f 24 k = nI (S k)) {W : Nat} (hW : W ≤ 9) {N : Nat} (hN : 100 ≤ N) : q_X3_howManyBear N (nI W) f = some (nI (cn (fun k => decide (W ≤ S k)) 9)) := by
  unfold q_X3_howManyBear
  obtain ⟨s', e, hs⟩ := for_ex (σ := Nat) (fun n k s => lp_X3_howManyBear_4 N (nI W) f n (nI s) (nI k)) 9 (fun k s => s = cn (fun k => decide (W ≤ S k)) k) (fun s => some (nI s))
    (fun n k s hk hI => by
      have := h1 k hk
      by_cases c : W ≤ S k
      · refine ⟨s + 1, ?_, by subst hI; simp [cn, c]⟩
        show lp_X3_howManyBear_4 N (nI W) f (n + 1) (nI s) (nI k) = _
        rw [lp_X3_howManyBear_4_s, if_neg (ge9 hk), gi_in _ hk (by decide), cl_nI (by omega), h k hk, if_neg (nI_nlt c (by omega))]
        simp only [sq]
        rw [nI_1, nI_1]
      · refine ⟨s, ?_, by subst hI; simp [cn, c]⟩
        show lp_X3_howManyBear_4 N (nI W) f (n + 1) (nI s) (nI k) = _
        rw [lp_X3_howManyBear_4_s, if_neg (ge9 hk), gi_in _ hk (by decide), cl_nI (by omega), h k hk, if_pos (nI_lt (by omega) (by omega))]
        simp only [sq]
        rw [nI_1])
    (fun n s hI => by
      show lp_X3_howManyBear_4 N (nI W) f (n + 1) (nI s) (nI 9) = _
      rw [lp_X3_howManyBear_4_s]
      exact if_pos (Int32.le_refl _))
    9 0 0 N rfl rfl (by omega)
  rw [show lp_X3_howManyBear_4 N (nI W) f N 0 0 = some (nI s') from e, bi_some, hs]
theorem notUnderF {f : mM} {S : Nat → Nat} (h1 : ∀ k, k < 9 → S k ≤ 9) (h : ∀ k, k < 9 → f 24 k = nI (S k)) {N : Nat} (hN : 100 ≤ N) : q_X3_notUnder N f = some (nI (cn (fun k => decide (1 ≤ S k)) 9)) := by
  unfold q_X3_notUnder
  rw [show q_X3_howManyBear N 1 f = _ from howManyF h1 h (W := 1) (by omega) hN, bi_some]
theorem aboveG {g : mM} {S : Nat → Nat} {np : Nat} (hp : g 0 16 = nI np) (hn : np ≤ 9) (h1 : ∀ k, k < 9 → S k ≤ 9) (h : ∀ k, k < 9 → g 8 k = nI (S k)) {N : Nat} (hN : 100 ≤ N) : q_X10_above N g = some (nI (cn (fun k => decide (1 ≤ S k)) np)) := by
  unfold q_X10_above
  obtain ⟨s', e, hs⟩ := for_ex (σ := Nat) (fun n k s => lp_X10_above_4 N g n (nI s) (nI k)) np (fun k s => s = cn (fun k => decide (1 ≤ S k)) k) (fun s => some (nI s))
    (fun n k s hk hI => by
      have := h1 k (by omega)
      by_cases c : 1 ≤ S k
      · refine ⟨s + 1, ?_, by subst hI; simp [cn, c]⟩
        show lp_X10_above_4 N g (n + 1) (nI s) (nI k) = _
        rw [lp_X10_above_4_s, hp, if_neg (nI_ge hk (by omega)), gi_in _ (by omega) (by decide), cl_nI (by omega), h k (by omega)]
        simp only [sq]
        rw [if_neg (nI_nle (by omega) (by omega)), nI_1, nI_1]
      · refine ⟨s, ?_, by subst hI; simp [cn, c]⟩
        show lp_X10_above_4 N g (n + 1) (nI s) (nI k) = _
        rw [lp_X10_above_4_s, hp, if_neg (nI_ge hk (by omega)), gi_in _ (by omega) (by decide), cl_nI (by omega), h k (by omega)]
        simp only [sq]
        rw [show S k = 0 by omega, if_pos (by decide), nI_1, show nI s + 0 = nI s from nI_add s 0])
    (fun n s hI => by
      show lp_X10_above_4 N g (n + 1) (nI s) (nI np) = _
      rw [lp_X10_above_4_s, hp]
      exact if_pos (Int32.le_refl _))
    np 0 0 N (by omega) rfl (by omega)
  rw [show lp_X10_above_4 N g N 0 0 = some (nI s') from e, bi_some, hs]
theorem cn9 {P : Nat → Bool} {np : Nat} (hn : np ≤ 9) (h : ∀ k, np ≤ k → k < 9 → P k = false) : cn P 9 = cn P np := by
  have := cn_tail h (9 - np) (by omega)
  rwa [show np + (9 - np) = 9 by omega] at this
theorem sm9 {S : Nat → Nat} {np : Nat} (hn : np ≤ 9) (h : ∀ k, np ≤ k → k < 9 → S k = 0) : sm S 9 = sm S np := by
  have := sm_tail h (9 - np) (by omega)
  rwa [show np + (9 - np) = 9 by omega] at this
theorem wh7 (x : Int32) : x = 0 ∨ x = 1 ∨ x = 2 ∨ x = 3 ∨ x = 4 ∨ x = 5 ∨ x = 6 ∨ (¬ x = 0 ∧ ¬ x = 1 ∧ ¬ x = 2 ∧ ¬ x = 3 ∧ ¬ x = 4 ∧ ¬ x = 5 ∧ ¬ x = 6) := by
  by_cases h0 : x = 0 <;> by_cases h1 : x = 1 <;> by_cases h2 : x = 2 <;> by_cases h3 : x = 3 <;> by_cases h4 : x = 4 <;> by_cases h5 : x = 5 <;> by_cases h6 : x = 6 <;> simp [h0, h1, h2, h3, h4, h5, h6]
theorem sim_count {N : Nat} (hN : 1000 ≤ N) : S_count Inv N := by
  intro f t g u hI x1
  have hI2 := hI.thr 0
  obtain ⟨h0, ⟨L, hL, t1, t2, t3⟩, M, hw, hf, hg, ⟨S, w, hn⟩, hk0, hk1⟩ := id hI2
  have hb := hw.1
  obtain ⟨n1, n2, n3, n4, n5, n6, n7⟩ := hn
  have n6 : st2 g 0 0 0 8 9 = nI w := n6
  have n8 : ∀ k, k < 9 → f 24 k = nI (S k) := fun k hk => (n4 k hk).1
  have n9 : ∀ k, k < 9 → st2 g 0 0 0 8 k = nI (S k) := fun k hk => by have := (n4 k hk).2; rwa [Nat.zero_add] at this
  unfold q_X9_count q_X10_count
  simp only [sq]
  rcases wh7 x1 with rfl | rfl | rfl | rfl | rfl | rfl | rfl | ⟨c0, c1, c2, c3, c4, c5, c6⟩
  · refine ⟨nI (M 0 0), _, ?_, ?_, hI2⟩
    · rw [if_pos rfl, hf.1.1]
    · rw [if_neg (show ¬ (4 : Int32) ≤ 0 by decide), if_pos rfl, hg.1.1]
  · refine ⟨nI (M 0 1), _, ?_, ?_, hI2⟩
    · rw [if_neg z10, if_pos rfl, hf.1.2.1]
    · rw [if_neg (show ¬ (4 : Int32) ≤ 1 by decide), if_neg z10, if_pos rfl, hg.1.2.1]
  · refine ⟨nI (M 0 2), _, ?_, ?_, hI2⟩
    · rw [if_neg z20, if_neg z21, if_pos rfl, hf.1.2.2.1]
    · rw [if_neg (show ¬ (4 : Int32) ≤ 2 by decide), if_neg z20, if_neg z21, if_pos rfl, hg.1.2.2.1]
  · refine ⟨nI (M 0 3), _, ?_, ?_, hI2⟩
    · rw [if_neg z30, if_neg z31, if_neg z32, if_pos rfl, hf.1.2.2.2]
    · rw [if_neg (show ¬ (4 : Int32) ≤ 3 by decide), if_neg z30, if_neg z31, if_neg z32, if_pos rfl, hg.1.2.2.2]
  · refine ⟨nI w, _, ?_, ?_, hI2⟩
    · rw [if_neg z40, if_neg z41, if_neg z42, if_neg z43, if_pos rfl, n5]
    · rw [if_pos (show (4 : Int32) ≤ 4 by decide), if_pos rfl, gi9 _, show Int32.toNatClampNeg 9 = 9 from by decide, n6]
  · refine ⟨nI (sm S 9), _, ?_, ?_, hI2⟩
    · rw [if_neg z50, if_neg z51, if_neg z52, if_neg z53, if_neg z54, if_pos rfl, borneF n8 (by omega), bi_some]
    · rw [if_pos (show (4 : Int32) ≤ 5 by decide), if_neg z54, if_pos rfl, bornG hg.1.2.1 (by omega) n9 (by omega), bi_some, sm9 (np := M 0 1) (by omega) n2]
  · refine ⟨nI L, _, ?_, ?_, hI2⟩
    · rw [if_neg z60, if_neg z61, if_neg z62, if_neg z63, if_neg z64, if_neg z65, if_pos rfl, t1]
    · rw [if_pos (show (4 : Int32) ≤ 6 by decide), if_neg z64, if_neg z65, if_pos rfl, t2]
  · refine ⟨-1, _, ?_, ?_, hI2⟩
    · rw [if_neg c0, if_neg c1, if_neg c2, if_neg c3, if_neg c4, if_neg c5, if_neg c6]
    · by_cases c : 4 ≤ x1
      · rw [if_pos c, if_neg c4, if_neg c5, if_neg c6]
      · rw [if_neg c, if_neg c0, if_neg c1, if_neg c2, if_neg c3]
