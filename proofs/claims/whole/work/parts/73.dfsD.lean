/-! the reference's search: what plank is next -/
def inA (A : Nat → Nat) (y : Nat) : Nat → Bool
  | 0 => false
  | e + 1 => inA A y e || decide (A e = y)
def nx (M : tM) (x B k : Nat) : Option Nat := match acr M k x with
  | none => none
  | some y => if B.testBit y then none else some y
def nf (M : tM) (x B : Nat) : Nat → Nat → Nat
  | 0, k => k
  | c + 1, k => match nx M x B k with
    | none => nf M x B c (k + 1)
    | some _ => k
theorem nf_spec (M : tM) (x B : Nat) : ∀ c k, (nf M x B c k = k + c ∧ ∀ j, k ≤ j → j < k + c → nx M x B j = none) ∨ ∃ y, k ≤ nf M x B c k ∧ nf M x B c k < k + c ∧ nx M x B (nf M x B c k) = some y ∧ ∀ j, k ≤ j → j < nf M x B c k → nx M x B j = none := by
  intro c
  induction c with
  | zero => intro k; exact Or.inl ⟨rfl, fun j h1 h2 => absurd h2 (by omega)⟩
  | succ c ih =>
    intro k
    cases hk : nx M x B k with
    | none =>
      have e : nf M x B (c + 1) k = nf M x B c (k + 1) := by
        show (match nx M x B k with | none => _ | some _ => _) = _
        rw [hk]
      rw [e]
      rcases ih (k + 1) with ⟨h1, h2⟩ | ⟨y, h1, h2, h3, h4⟩
      · refine Or.inl ⟨by omega, fun j a1 a2 => ?_⟩
        by_cases c : j = k
        · rw [c]; exact hk
        · exact h2 j (by omega) (by omega)
      · refine Or.inr ⟨y, by omega, by omega, h3, fun j a1 a2 => ?_⟩
        by_cases c : j = k
        · rw [c]; exact hk
        · exact h4 j (by omega) a2
    | some y =>
      have e : nf M x B (c + 1) k = k := by
        show (match nx M x B k with | none => _ | some _ => _) = _
        rw [hk]
      rw [e]
      exact Or.inr ⟨y, by omega, by omega, hk, fun j a1 a2 => absurd a2 (by omega)⟩
theorem np40_0 {N : Nat} (x1 x4 x5 : Int32) {d : Nat} (hd : d < 7) (g : mM) (hN : 100 ≤ N) : lp_X10_nextPlank_40 N x1 (nI d) x4 x5 g N 0 0 = some 0 := by
  obtain ⟨s', e, hs⟩ := for_ex (σ := Unit) (fun n k _ => lp_X10_nextPlank_40 N x1 (nI d) x4 x5 g n 0 (nI k)) (d + 1) (fun _ _ => True) (fun _ => some 0)
    (fun n k s hk hI => by
      refine ⟨(), ?_, trivial⟩
      show lp_X10_nextPlank_40 N x1 (nI d) x4 x5 g (n + 1) 0 (nI k) = _
      rw [lp_X10_nextPlank_40_s, if_neg (nI_nlt (by omega) (by omega))]
      simp only [sq]
      rw [if_pos trivial, nI_1])
    (fun n s hI => by
      show lp_X10_nextPlank_40 N x1 (nI d) x4 x5 g (n + 1) 0 (nI (d + 1)) = _
      rw [lp_X10_nextPlank_40_s, if_pos (nI_lt (by omega) (by omega))])
    (d + 1) 0 () N (by omega) trivial (by omega)
  exact e
theorem np40_1 {N : Nat} (x1 x4 : Int32) {d y : Nat} (hd : d < 7) (g : mM) (A : Nat → Nat) (hA : ∀ e, e ≤ d → g 12 e = nI (A e) ∧ A e < 6) (hy : y < 6) (hN : 100 ≤ N) : lp_X10_nextPlank_40 N x1 (nI d) x4 (nI y) g N 1 0 = some (if inA A y (d + 1) then 0 else 1) := by
  obtain ⟨s', e, hs⟩ := for_ex (σ := Int32) (fun n k s => lp_X10_nextPlank_40 N x1 (nI d) x4 (nI y) g n s (nI k)) (d + 1) (fun k s => s = if inA A y k then 0 else 1) (fun s => some s)
    (fun n k s hk hI => by
      refine ⟨if inA A y (k + 1) then 0 else 1, ?_, rfl⟩
      show lp_X10_nextPlank_40 N x1 (nI d) x4 (nI y) g (n + 1) s (nI k) = _
      have a := hA k (by omega)
      rw [lp_X10_nextPlank_40_s, if_neg (nI_nlt (by omega) (by omega))]
      simp only [sq]
      rw [nI_1, gi_in _ (by omega) (by decide), cl_nI (by omega), a.1]
      subst hI
      by_cases c : inA A y k = true
      · rw [if_pos c, if_pos rfl, show inA A y (k + 1) = true by simp [inA, c], if_pos rfl]
      · rw [if_neg c, if_neg z10]
        by_cases c2 : A k = y
        · rw [if_pos (show nI (A k) = nI y by rw [c2]), show inA A y (k + 1) = true by simp [inA, c2], if_pos rfl]
        · rw [if_neg (fun h => c2 ((nI_inj (by omega) (by omega)).mp h)), show inA A y (k + 1) = false by simp [inA, c2, c], if_neg (by decide)])
    (fun n s hI => by
      show lp_X10_nextPlank_40 N x1 (nI d) x4 (nI y) g (n + 1) s (nI (d + 1)) = _
      rw [lp_X10_nextPlank_40_s, if_pos (nI_lt (by omega) (by omega))])
    (d + 1) 0 1 N (by omega) rfl (by omega)
  rw [show lp_X10_nextPlank_40 N x1 (nI d) x4 (nI y) g N 1 0 = _ from e, hs]
theorem nextG {g : mM} {M : tM} (hw : WF M) (hg : TG g M) {x d B : Nat} (A : Nat → Nat) (hx : x < M 0 0) (hd : d < 7) (hA : ∀ e, e ≤ d → g 12 e = nI (A e) ∧ A e < 6) (hB : ∀ y, B.testBit y = inA A y (d + 1)) {k : Nat} (hk : k ≤ M 0 1) {N : Nat} (hN : 100 ≤ N) : q_X10_nextPlank N (nI x) (nI k - 1) (nI d) g = some (nI (nf M x B (M 0 1 - k) k)) := by
  have hb := hw.1
  unfold q_X10_nextPlank
  simp only [sq]
  rw [show nI k - 1 + 1 = nI k from by rw [Int32.sub_eq_add_neg, Int32.add_assoc]; exact Int32.add_zero _]
  have lp : ∀ c k n, k + c = M 0 1 → c < n → ∃ z : Nat, lp_X10_nextPlank_5 N (nI x) (nI d) g n (nI k) = some (z, nI (nf M x B c k)) ∧ (z = 0 ∨ z = 1 ∧ nf M x B c k = M 0 1) := by
    intro c
    induction c with
    | zero =>
      intro k n hk hn
      obtain ⟨n, rfl⟩ : ∃ j, n = j + 1 := ⟨n - 1, by omega⟩
      refine ⟨1, ?_, Or.inr ⟨rfl, hk⟩⟩
      rw [lp_X10_nextPlank_5_s, hg.1.2.1, show k = M 0 1 by omega, if_pos (Int32.le_refl _)]
      rfl
    | succ c ih =>
      intro k n hk hn
      obtain ⟨n, rfl⟩ : ∃ j, n = j + 1 := ⟨n - 1, by omega⟩
      obtain ⟨z, i1, i2⟩ := ih (k + 1) n (by omega) (by omega)
      rw [lp_X10_nextPlank_5_s, hg.1.2.1, if_neg (nI_ge (by omega) (by omega)), acrossG hw hg (by omega) hx, bi_some]
      simp only [sq]
      rw [nI_1]
      unfold nf nx
      cases ha : acr M k x with
      | none =>
        simp only []
        rw [if_pos trivial, np40_0 _ _ _ hd _ hN, bi_some, if_pos rfl]
        exact ⟨z, i1, i2⟩
      | some y =>
        have hy := acr_lt hw (by omega) ha
        simp only []
        rw [if_neg (show ¬ nI y = -9 by rw [i_eq, nI_toInt (by omega), show (-9 : Int32).toInt = -9 from rfl]; omega), np40_1 _ _ hd _ A hA (by omega) hN, bi_some, ← hB]
        by_cases c : B.testBit y = true
        · rw [if_pos c, if_pos rfl, c]
          exact ⟨z, i1, i2⟩
        · rw [if_neg c, if_neg z10, show B.testBit y = false by simpa using c]
          exact ⟨0, rfl, Or.inl rfl⟩
  obtain ⟨z, i1, i2⟩ := lp (M 0 1 - k) k N (by omega) (by omega)
  rw [i1, bi2_some]
  rcases i2 with rfl | ⟨rfl, i2⟩
  · rfl
  · rw [if_neg (by decide), if_pos rfl, hg.1.2.1, i2]
