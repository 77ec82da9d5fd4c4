def stp (M : tM) (S : Nat → Nat) (p d x B k : Nat) : Option Nat := match acr M k x with
  | none => none
  | some y => if B.testBit y then none else if canG M S p k d then some y else none
def ffl (stq : Nat → Option Nat) (sub : Nat → Option (List Nat)) : Nat → Nat → Option (List Nat)
  | 0, _ => none
  | c + 1, k => match stq k with
    | none => ffl stq sub c (k + 1)
    | some y => match sub y with
      | none => ffl stq sub c (k + 1)
      | some q => some (k :: q)
/-- the first way of so many planks -/
def FF (M : tM) (S : Nat → Nat) (p b : Nat) : Nat → Nat → Nat → Nat → Option (List Nat)
  | 0, _, x, _ => if x = b then some [] else none
  | l + 1, d, x, B => if x = b then none else ffl (stp M S p d x B) (fun y => FF M S p b l (d + 1) y (B ||| 2 ^ y)) (M 0 1) 0
def rI (o : Option (List Nat)) : Int32 := match o with
  | none => 0
  | some _ => 1
theorem or_lt {B y : Nat} (hB : B < 64) (hy : y < 6) : B ||| 2 ^ y < 64 := by
  have h2 : 2 ^ y < 2 ^ 6 := Nat.pow_lt_pow_right (by omega) hy
  exact Nat.or_lt_two_pow (n := 6) hB h2
theorem ffl_len {stq : Nat → Option Nat} {sub : Nat → Option (List Nat)} {l : Nat} (h : ∀ y q, sub y = some q → q.length = l) : ∀ c k q, ffl stq sub c k = some q → q.length = l + 1 := by
  intro c
  induction c with
  | zero => intro k q h; cases h
  | succ c ih =>
    intro k q hq
    unfold ffl at hq
    cases hs : stq k with
    | none => rw [hs] at hq; exact ih _ _ hq
    | some y =>
      rw [hs] at hq
      cases hy : sub y with
      | none => simp only [hy] at hq; exact ih _ _ hq
      | some q2 =>
        simp only [hy] at hq
        have := Option.some.inj hq
        rw [← this, List.length_cons, h y q2 hy]
theorem FF_len {M : tM} {S : Nat → Nat} {p b : Nat} : ∀ l d x B q, FF M S p b l d x B = some q → q.length = l := by
  intro l
  induction l with
  | zero =>
    intro d x B q h
    unfold FF at h
    by_cases c : x = b
    · rw [if_pos c] at h; rw [← Option.some.inj h]; rfl
    · rw [if_neg c] at h; cases h
  | succ l ih =>
    intro d x B q h
    unfold FF at h
    by_cases c : x = b
    · rw [if_pos c] at h; cases h
    · rw [if_neg c] at h
      exact ffl_len (fun y q hq => ih _ _ _ _ hq) _ _ _ h
set_option maxHeartbeats 1000000 in
theorem ff_run {M : tM} {S : Nat → Nat} {p b : Nat} (hw : WF M) (hp : p < M 0 2) (hbn : b < M 0 0) (hS : ∀ k, k < 9 → S k ≤ 9) {N : Nat} (hN : 100 ≤ N) : ∀ l d x B D (f : mM), d + l ≤ 5 → l < D → x < M 0 0 → B < 64 → TF f M → (∀ k, k < 9 → f 24 k = nI (S k)) → ∃ f' : mM, r_X8_findFrom N D (nI p) (nI x) (nI b) (nI (d + l)) (nI d) (nI B) f = some (rI (FF M S p b l d x B), f') ∧ (∀ c, c ≠ 38 → f' c = f c) ∧ (∀ j, j < d → f' 38 j = f 38 j) ∧ ∀ q, FF M S p b l d x B = some q → ∀ i, i < l → f' 38 (d + i) = nI (q.getD i 0) := by
  have hb := hw.1
  intro l
  induction l with
  | zero =>
    intro d x B D f hd hD hx hB hf h24
    obtain ⟨D, rfl⟩ : ∃ j, D = j + 1 := ⟨D - 1, by omega⟩
    refine ⟨f, ?_, fun _ _ => rfl, fun _ _ => rfl, fun q _ i hi => absurd hi (by omega)⟩
    show q_X8_findFrom (r_X8_findFrom N D) N (nI p) (nI x) (nI b) (nI (d + 0)) (nI d) (nI B) f = _
    unfold q_X8_findFrom FF
    rw [Nat.add_zero, rz0, rz1]
    by_cases c : x = b
    · rw [if_pos (show nI x = nI b by rw [c]), if_pos rfl, if_pos c]; rfl
    · rw [if_neg (fun h => c ((nI_inj (by omega) (by omega)).mp h)), if_pos (Int32.le_refl _), if_neg c]; rfl
  | succ l ih =>
    intro d x B D f hd hD hx hB hf h24
    obtain ⟨D, rfl⟩ : ∃ j, D = j + 1 := ⟨D - 1, by omega⟩
    show ∃ f', q_X8_findFrom (r_X8_findFrom N D) N (nI p) (nI x) (nI b) (nI (d + (l + 1))) (nI d) (nI B) f = some (rI (FF M S p b (l + 1) d x B), f') ∧ _
    unfold q_X8_findFrom
    simp only [rz0, rz1]
    by_cases c : x = b
    · have e : FF M S p b (l + 1) d x B = none := by unfold FF; rw [if_pos c]
      rw [if_pos (show nI x = nI b by rw [c]), if_neg (fun h => by have := (nI_inj (by omega) (by omega)).mp h; omega), e]
      exact ⟨f, rfl, fun _ _ => rfl, fun _ _ => rfl, fun q h => by cases h⟩
    · have e : FF M S p b (l + 1) d x B = ffl (stp M S p d x B) (fun y => FF M S p b l (d + 1) y (B ||| 2 ^ y)) (M 0 1) 0 := by
        show (if x = b then none else _) = _
        rw [if_neg c]
      rw [if_neg (fun h => c ((nI_inj (by omega) (by omega)).mp h)), if_neg (nI_ge (by omega) (by omega)), if_pos (show nI d < 5 from nI_lt (b := 5) (by omega) (by decide)), takesF hw hf hp (by omega), bi_some, e]
      have lp : ∀ c k n (f1 : mM), k + c = M 0 1 → c < n → (∀ j, j ≠ 38 → f1 j = f j) → ∃ f' : mM, lp_X8_findFrom_48 (r_X8_findFrom N D) N (nI p) (nI x) (nI b) (nI (d + (l + 1))) (nI d) (nI B) (nI (tk M p d)) n (nI k) f1 = some ((match ffl (stp M S p d x B) (fun y => FF M S p b l (d + 1) y (B ||| 2 ^ y)) c k with | none => 1 | some _ => 0), f') ∧ (∀ j, j ≠ 38 → f' j = f j) ∧ (∀ j, j < d → f' 38 j = f1 38 j) ∧ ∀ q, ffl (stp M S p d x B) (fun y => FF M S p b l (d + 1) y (B ||| 2 ^ y)) c k = some q → ∀ i, i < l + 1 → f' 38 (d + i) = nI (q.getD i 0) := by
        intro c
        induction c with
        | zero =>
          intro k n f1 hk hn h1
          obtain ⟨n, rfl⟩ : ∃ j, n = j + 1 := ⟨n - 1, by omega⟩
          refine ⟨f1, ?_, h1, fun _ _ => rfl, fun q h => by cases h⟩
          rw [lp_X8_findFrom_48_s, h1 3 (by decide), hf.1.2.1, show k = M 0 1 by omega, if_pos (Int32.le_refl _)]
          rfl
        | succ c ihc =>
          intro k n f1 hk hn h1
          obtain ⟨n, rfl⟩ : ∃ j, n = j + 1 := ⟨n - 1, by omega⟩
          have hf1 : TF f1 M := hf.go (fun j a1 a2 => h1 j (by omega))
          have step := lp_X8_findFrom_48_s (r_X8_findFrom N D) N (nI p) (nI x) (nI b) (nI (d + (l + 1))) (nI d) (nI B) (nI (tk M p d)) n (nI k) f1
          rw [hf1.1.2.1, if_neg (nI_ge (by omega) (by omega)), acrossF hw hf1 (by omega) hx (by omega), bi_some] at step
          simp only [sq] at step
          have hkk : nI k + 1 = nI (k + 1) := nI_1 k
          rw [hkk] at step
          obtain ⟨f', g1, g2, g3, g4⟩ := ihc (k + 1) n f1 (by omega) (by omega) h1
          unfold ffl
          cases ha : acr M k x with
          | none =>
            rw [ha] at step
            rw [show stp M S p d x B k = none by unfold stp; rw [ha]]
            exact ⟨f', by rw [step, if_pos rfl]; exact g1, g2, g3, g4⟩
          | some y =>
            have hy := acr_lt hw (by omega) ha
            rw [ha] at step
            simp only [] at step
            by_cases ct : B.testBit y = true
            · rw [if_pos ct, if_pos rfl] at step
              rw [show stp M S p d x B k = none by unfold stp; rw [ha]; simp [ct]]
              exact ⟨f', by rw [step]; exact g1, g2, g3, g4⟩
            · have hs9 := hS k (by omega)
              rw [if_neg ct, if_neg (show ¬ nI y = -1 by rw [i_eq, nI_toInt (by omega), show (-1 : Int32).toInt = -1 from rfl]; omega), canTakeF (S := S) (by omega) hs9 (by rw [h1 24 (by decide)]; exact h24 k (by omega)) (by have := tk_le hw hp d; omega), bi_some] at step
              by_cases cg : 1 ≤ S k ∧ tk M p d ≤ S k
              · rw [if_pos cg, if_neg z10, gi_in _ (by omega) (by decide), cl_nI (by omega), sh_l (by omega), or_nI, show nI d + 1 = nI (d + 1) from nI_1 d, show d + (l + 1) = (d + 1) + l by omega] at step
                rw [show stp M S p d x B k = some y by unfold stp; rw [ha]; simp [ct, canG, cg]]
                have f2T : TF (st2 f1 38 d (nI k)) M := hf1.go (fun j a1 a2 => st2_c (by omega))
                obtain ⟨f3, r1, r2, r3, r4⟩ := ih (d + 1) y (B ||| 2 ^ y) D (st2 f1 38 d (nI k)) (by omega) (by omega) hy (or_lt hB (by omega)) f2T (fun j hj => by rw [st2_c (by decide), h1 24 (by decide)]; exact h24 j hj)
                rw [r1, bi2_some] at step
                have h3 : ∀ j, j ≠ 38 → f3 j = f j := fun j hj => by rw [r2 j hj, st2_c hj]; exact h1 j hj
                cases hF : FF M S p b l (d + 1) y (B ||| 2 ^ y) with
                | none =>
                  rw [hF, show rI none = 0 from rfl, if_pos rfl] at step
                  obtain ⟨f4, k1, k2, k3, k4⟩ := ihc (k + 1) n f3 (by omega) (by omega) h3
                  refine ⟨f4, ?_, k2, fun j hj => ?_, ?_⟩
                  · rw [show d + (l + 1) = (d + 1) + l by omega, step, show (d + 1) + l = d + (l + 1) by omega]
                    simp only [hF]
                    exact k1
                  · rw [k3 j hj, r3 j (by omega), st2_k (by omega)]
                  · simp only [hF]
                    exact k4
                | some q =>
                  rw [hF, show rI (some q) = 1 from rfl, if_neg z10] at step
                  refine ⟨f3, ?_, h3, fun j hj => ?_, ?_⟩
                  · rw [show d + (l + 1) = (d + 1) + l by omega, step]
                    simp only [hF]
                  · rw [r3 j (by omega), st2_k (by omega)]
                  · simp only [hF]
                    intro q2 hq2 i hi
                    rw [← Option.some.inj hq2]
                    cases i with
                    | zero => rw [Nat.add_zero, r3 d (by omega), st2_e]; rfl
                    | succ i =>
                      rw [show d + (i + 1) = (d + 1) + i by omega, r4 q hF i (by omega)]
                      rfl
              · rw [if_neg cg, if_pos rfl] at step
                rw [show stp M S p d x B k = none by unfold stp; rw [ha]; simp [ct, canG, cg]]
                exact ⟨f', by rw [step]; exact g1, g2, g3, g4⟩
      obtain ⟨f', k1, k2, k3, k4⟩ := lp (M 0 1) 0 N f (by omega) (by omega) (fun _ _ => rfl)
      have k1 : lp_X8_findFrom_48 (r_X8_findFrom N D) N (nI p) (nI x) (nI b) (nI (d + (l + 1))) (nI d) (nI B) (nI (tk M p d)) N 0 f = _ := k1
      rw [k1, bi2_some]
      refine ⟨f', ?_, k2, k3, k4⟩
      cases hF : ffl (stp M S p d x B) (fun y => FF M S p b l (d + 1) y (B ||| 2 ^ y)) (M 0 1) 0 with
      | none => rfl
      | some q => rfl
