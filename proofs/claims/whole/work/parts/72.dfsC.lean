/-- the class's FIRST WAY: the least number of planks for which there is one, and that -/
def FW (M : tM) (S : Nat → Nat) (p a b : Nat) : Nat → Nat → Option (Nat × List Nat)
  | 0, _ => none
  | c + 1, l => match FF M S p b l 0 a (2 ^ a) with
    | none => FW M S p a b c (l + 1)
    | some q => some (l, q)
theorem FW_some {M : tM} {S : Nat → Nat} {p a b : Nat} : ∀ c l r, FW M S p a b c l = some r → l ≤ r.1 ∧ r.1 < l + c ∧ FF M S p b r.1 0 a (2 ^ a) = some r.2 ∧ ∀ j, l ≤ j → j < r.1 → FF M S p b j 0 a (2 ^ a) = none := by
  intro c
  induction c with
  | zero => intro l r h; cases h
  | succ c ih =>
    intro l r h
    unfold FW at h
    cases hF : FF M S p b l 0 a (2 ^ a) with
    | none =>
      rw [hF] at h
      obtain ⟨h1, h2, h3, h4⟩ := ih (l + 1) r h
      refine ⟨by omega, by omega, h3, fun j hj hj2 => ?_⟩
      by_cases e : j = l
      · rw [e]; exact hF
      · exact h4 j (by omega) hj2
    | some q =>
      rw [hF] at h
      have := Option.some.inj h
      subst this
      exact ⟨Nat.le_refl l, by show l < l + (c + 1); omega, hF, fun j h1 h2 => absurd h1 (by have : j < l := h2; omega)⟩
theorem FW_none {M : tM} {S : Nat → Nat} {p a b : Nat} : ∀ c l, FW M S p a b c l = none → ∀ j, l ≤ j → j < l + c → FF M S p b j 0 a (2 ^ a) = none := by
  intro c
  induction c with
  | zero => intro l _ j h1 h2; omega
  | succ c ih =>
    intro l h j h1 h2
    unfold FW at h
    cases hF : FF M S p b l 0 a (2 ^ a) with
    | none =>
      rw [hF] at h
      by_cases e : j = l
      · rw [e]; exact hF
      · exact ih (l + 1) h j (by omega) (by omega)
    | some q => rw [hF] at h; cases h
theorem findF {f : mM} {M : tM} {S : Nat → Nat} {p a b : Nat} (hw : WF M) (hp : p < M 0 2) (ha : a < M 0 0) (hbn : b < M 0 0) (hS : ∀ k, k < 9 → S k ≤ 9) (hf : TF f M) (h24 : ∀ k, k < 9 → f 24 k = nI (S k)) {N : Nat} (hN : 100 ≤ N) : ∃ f' : mM, q_X8_findFirst N (nI p) (nI a) (nI b) f = some (nI (match FW M S p a b (M 0 0 - 1) 1 with | none => 0 | some r => r.1), f') ∧ (∀ c, c ≠ 38 → f' c = f c) ∧ ∀ r, FW M S p a b (M 0 0 - 1) 1 = some r → ∀ i, i < r.1 → f' 38 i = nI (r.2.getD i 0) := by
  have hb := hw.1
  have ha64 : 2 ^ a < 64 := Nat.pow_lt_pow_right (n := 6) (by omega) (by omega)
  have lp : ∀ c l n (f1 : mM), l + c = M 0 0 → 1 ≤ l → c < n → (∀ j, j ≠ 38 → f1 j = f j) → ∃ f' : mM, (∀ j, j ≠ 38 → f' j = f j) ∧ (match FW M S p a b c l with | none => ∃ y, lp_X8_findFirst_3 N (nI p) (nI a) (nI b) n (nI l) f1 = some (1, y, f') | some r => lp_X8_findFirst_3 N (nI p) (nI a) (nI b) n (nI l) f1 = some (0, nI r.1, f') ∧ ∀ i, i < r.1 → f' 38 i = nI (r.2.getD i 0)) := by
    intro c
    induction c with
    | zero =>
      intro l n f1 hl h1 hn hf1
      obtain ⟨n, rfl⟩ : ∃ j, n = j + 1 := ⟨n - 1, by omega⟩
      refine ⟨f1, hf1, nI l, ?_⟩
      rw [lp_X8_findFirst_3_s, hf1 3 (by decide), hf.1.1, show l = M 0 0 by omega, if_pos (Int32.le_refl _)]
    | succ c ih =>
      intro l n f1 hl h1 hn hf1
      obtain ⟨n, rfl⟩ : ∃ j, n = j + 1 := ⟨n - 1, by omega⟩
      have hf1T : TF f1 M := hf.go (fun j a1 a2 => hf1 j (by omega))
      obtain ⟨f2, r1, r2, r3, r4⟩ := ff_run (p := p) (b := b) hw hp hbn hS hN l 0 a (2 ^ a) 8 f1 (by omega) (by omega) ha ha64 hf1T (fun k hk => by rw [hf1 24 (by decide)]; exact h24 k hk)
      rw [Nat.zero_add] at r1
      have r1 : r_X8_findFrom N 8 (nI p) (nI a) (nI b) (nI l) 0 (nI (2 ^ a)) f1 = _ := r1
      have step := lp_X8_findFirst_3_s N (nI p) (nI a) (nI b) n (nI l) f1
      rw [hf1T.1.1, if_neg (nI_ge (by omega) (by omega)), sh_l (by omega), r1, bi2_some] at step
      simp only [sq] at step
      have h2 : ∀ j, j ≠ 38 → f2 j = f j := fun j hj => (r2 j hj).trans (hf1 j hj)
      unfold FW
      cases hF : FF M S p b l 0 a (2 ^ a) with
      | none =>
        rw [hF, show rI none = 0 from rfl, if_pos rfl, nI_1] at step
        obtain ⟨f', k1, k2⟩ := ih (l + 1) n f2 (by omega) (by omega) (by omega) h2
        rw [step]
        exact ⟨f', k1, k2⟩
      | some q =>
        rw [hF, show rI (some q) = 1 from rfl, if_neg z10] at step
        refine ⟨f2, h2, step, fun i hi => ?_⟩
        have := r4 q hF i hi
        rwa [Nat.zero_add] at this
  obtain ⟨f', k1, k2⟩ := lp (M 0 0 - 1) 1 N f (by omega) (by omega) (by omega) (fun _ _ => rfl)
  refine ⟨f', ?_, k1, ?_⟩
  · unfold q_X8_findFirst
    cases hW : FW M S p a b (M 0 0 - 1) 1 with
    | none =>
      rw [hW] at k2
      obtain ⟨y, k2⟩ := k2
      rw [show lp_X8_findFirst_3 N (nI p) (nI a) (nI b) N 1 f = _ from k2, bi3_some]
      rfl
    | some r =>
      rw [hW] at k2
      rw [show lp_X8_findFirst_3 N (nI p) (nI a) (nI b) N 1 f = _ from k2.1, bi3_some]
      rfl
  · intro r hr
    rw [hr] at k2
    exact k2.2
