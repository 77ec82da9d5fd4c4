/-! the reference's search: all ways, in their order -/
def pal (stq : Nat → Option Nat) (sub : Nat → List (List Nat)) : Nat → Nat → List (List Nat)
  | 0, _ => []
  | c + 1, k => match stq k with
    | none => pal stq sub c (k + 1)
    | some y => (sub y).map (fun q => k :: q) ++ pal stq sub c (k + 1)
/-- all ways -/
def PA (M : tM) (S : Nat → Nat) (p b : Nat) : Nat → Nat → Nat → Nat → List (List Nat)
  | 0, _, _, _ => []
  | m + 1, d, x, B => pal (stp M S p d x B) (fun y => if y = b then [[]] else PA M S p b m (d + 1) y (B ||| 2 ^ y)) (M 0 1) 0
theorem pal_skip {stq : Nat → Option Nat} {sub : Nat → List (List Nat)} : ∀ i c k, (∀ j, k ≤ j → j < k + i → stq j = none) → pal stq sub (i + c) k = pal stq sub c (k + i) := by
  intro i
  induction i with
  | zero => intro c k _; rw [Nat.zero_add, Nat.add_zero]
  | succ i ih =>
    intro c k h
    rw [show i + 1 + c = (i + c) + 1 by omega]
    show (match stq k with | none => pal stq sub (i + c) (k + 1) | some y => (sub y).map (fun q => k :: q) ++ pal stq sub (i + c) (k + 1)) = _
    rw [h k (by omega) (by omega)]
    show pal stq sub (i + c) (k + 1) = _
    rw [ih c (k + 1) (fun j a1 a2 => h j (by omega) (by omega)), show k + 1 + i = k + (i + 1) by omega]
theorem pal_nil {stq : Nat → Option Nat} {sub : Nat → List (List Nat)} (c k : Nat) (h : ∀ j, k ≤ j → j < k + c → stq j = none) : pal stq sub c k = [] := by
  have := pal_skip (sub := sub) c 0 k h
  rw [Nat.add_zero] at this
  rw [this]
  rfl
def IsL (N p : Nat) (L G : Nat → Int32 → Int32 → mM → Option (Int32 × mM)) : Prop := ∀ (n : Nat) (x4 x5 : Int32) (f : mM), L (n + 1) x4 x5 f = if x5 < 0 then some (x4, f) else gi x5 7 (gi x5 6 (bi (q_X10_nextPlank N (f 12 (Int32.toNatClampNeg x5)) (f 11 (Int32.toNatClampNeg x5)) x5 f) (fun y7 => gi x5 6 (sq (st2 f 11 (Int32.toNatClampNeg x5) y7) (fun f10 => gi x5 6 (sq (f10 11 (Int32.toNatClampNeg x5)) (fun x6_12 => if x6_12 = (f10 0 16) then sq (x5 + (-1)) (fun x5_34 => L n x4 x5_34 f10) else gi x6_12 50 (if (f10 8 (Int32.toNatClampNeg x6_12)) ≤ 0 then L n x4 x5 f10 else gi x6_12 50 (bi (q_X10_takenBy (nI p) x5 f10) (fun y15 => if (f10 8 (Int32.toNatClampNeg x6_12)) < y15 then L n x4 x5 f10 else gi x5 7 (bi (q_X10_across x6_12 (f10 12 (Int32.toNatClampNeg x5)) f10) (fun y18 => gi (x5 + 1) 7 (sq (st2 f10 12 (Int32.toNatClampNeg (x5 + 1)) y18) (fun f21 => gi (x5 + 1) 7 (G n x4 x5 f21)))))))))))))))
theorem dfs_step {N p : Nat} {L G : Nat → Int32 → Int32 → mM → Option (Int32 × mM)} (hL : IsL N p L G) {M : tM} {S : Nat → Nat} (hw : WF M) (hp : p < M 0 2) (hS : ∀ k, k < 9 → S k ≤ 9) {g : mM} (hg : TG g M) (h8 : ∀ k, k < 9 → g 8 k = nI (S k)) {x d B : Nat} (A : Nat → Nat) (hx : x < M 0 0) (hAx : A d = x) (hd : d < 6) (hA : ∀ e, e ≤ d → g 12 e = nI (A e) ∧ A e < 6) (hB : ∀ y, B.testBit y = inA A y (d + 1)) {k : Nat} (hk : k ≤ M 0 1) (hr : g 11 d = nI k - 1) (hN : 100 ≤ N) (n : Nat) (acc : Int32) :
    (nf M x B (M 0 1 - k) k = M 0 1 → L (n + 1) acc (nI d) g = L n acc (nI d - 1) (st2 g 11 d (nI (M 0 1)))) ∧ (∀ k' y, nf M x B (M 0 1 - k) k = k' → k' < M 0 1 → nx M x B k' = some y → (canG M S p k' d = false → L (n + 1) acc (nI d) g = L n acc (nI d) (st2 g 11 d (nI k'))) ∧ (canG M S p k' d = true → L (n + 1) acc (nI d) g = G n acc (nI d) (st2 (st2 g 11 d (nI k')) 12 (d + 1) (nI y)))) := by
  have hb := hw.1
  have hst := hL n acc (nI d) g
  simp only [sq] at hst
  rw [if_neg (nI_pos (by omega)), gi_in _ (by omega) (by decide), gi_in _ (by omega) (by decide), cl_nI (by omega), (hA d (Nat.le_refl d)).1, hAx, hr, nextG hw hg A hx (by omega) hA hB hk hN, bi_some, gi_in _ (by omega) (by decide), gi_in _ (by omega) (by decide), st2_e] at hst
  rw [st2_c (show (0 : Nat) ≠ 11 by decide), hg.1.2.1] at hst
  refine ⟨fun h => ?_, fun k' y h hk' hy => ?_⟩
  · rw [hst, h, if_pos rfl, Int32.sub_eq_add_neg]
  · have hb9 := hS k' (by omega)
    have hg1 : TG (st2 g 11 d (nI k')) M := hg.go (fun c h1 h2 => st2_c (by omega)) (fun j h1 h2 => by rw [st2_c (by decide)])
    have hac : acr M k' x = some y := by
      unfold nx at hy
      cases ha : acr M k' x with
      | none => rw [ha] at hy; cases hy
      | some z =>
        rw [ha] at hy
        simp only [] at hy
        by_cases c : B.testBit z = true
        · rw [if_pos c] at hy; cases hy
        · rw [if_neg c] at hy; exact hy
    rw [h, if_neg (fun h => by have := (nI_inj (by omega) (by omega)).mp h; omega), gi_in _ (by omega) (by decide), cl_nI (by omega), st2_c (show (8 : Nat) ≠ 11 by decide), h8 k' (by omega), gi_in _ (by omega) (by decide), takenG hw hg1 hp (by omega), bi_some, gi_in _ (by omega) (by decide), st2_c (show (12 : Nat) ≠ 11 by decide), (hA d (Nat.le_refl d)).1, hAx, acrossG hw hg1 (by omega) hx, bi_some, hac, nI_1, gi_in _ (by omega) (by decide), gi_in _ (by omega) (by decide), cl_nI (by omega)] at hst
    have ht := tk_le hw hp d
    refine ⟨fun c => ?_, fun c => ?_⟩
    · have c : ¬ (1 ≤ S k' ∧ tk M p d ≤ S k') := by simpa [canG] using c
      by_cases c1 : 1 ≤ S k'
      · rw [if_neg (nI_nle (by omega) (by omega)), if_pos (nI_lt (by omega) (by omega))] at hst
        exact hst
      · rw [show S k' = 0 by omega, if_pos (by decide)] at hst
        exact hst
    · have c : 1 ≤ S k' ∧ tk M p d ≤ S k' := by simpa [canG] using c
      rw [if_neg (nI_nle (by omega) (by omega)), if_neg (nI_nlt (by omega) (by omega))] at hst
      exact hst
