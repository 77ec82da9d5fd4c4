theorem sh_amt10 : ∀ y, y < 10 → ((nI y &&& 31).toBitVec.smod 32).toNat = y := by decide
theorem sh_l10 {y : Nat} (hy : y < 10) : (1 : Int32) <<< (nI y &&& 31) = nI (2 ^ y) := by
  have := pk_shlN (n := 1) (nI y &&& 31) y (sh_amt10 y hy) (by
    have : 2 ^ y ≤ 2 ^ 10 := Nat.pow_le_pow_right (by omega) (by omega)
    omega)
  rw [Nat.one_mul] at this
  exact this
theorem bitI {B y : Nat} (hB : B < 2 ^ 20) (hy : y < 9) : (nI B >>> (nI y &&& 31)) &&& 1 = if B.testBit y then 1 else 0 := by
  rw [sh_r hB hy, bit_div]
  split <;> rfl
theorem bits64 {M : tM} (hw : WF M) {s : Nat} (h : ∀ z, s.testBit z = true → z < M 0 0) : s < 64 := by
  have h1 := bits_lt h
  have h2 : 2 ^ M 0 0 ≤ 2 ^ 6 := Nat.pow_le_pow_right (by omega) hw.1.2.1
  omega
theorem apart20 {g : mM} {M : tM} (hw : WF M) (hg : TG g M) {T s : Nat} (hT : T < 2 ^ 20) (hs : ∀ z, s.testBit z = true → z < M 0 0) (x2 x5 : Int32) {N : Nat} (hN : 100 ≤ N) : lp_X10_areApart_20 N x2 (nI T) x5 g N (nI s) 0 = some (nI (sw M T s (M 0 1))) := by
  have hb := hw.1
  obtain ⟨s', e, h1⟩ := for_ex (σ := Nat) (fun n k s => lp_X10_areApart_20 N x2 (nI T) x5 g n (nI s) (nI k)) (M 0 1) (fun k r => r = sw M T s k) (fun r => some (nI r))
    (fun n k r hk hI => by
      refine ⟨stepS M T r k, ?_, by subst hI; rfl⟩
      have hr : r < 64 := bits64 hw (by subst hI; exact sw_bits hw hs k (by omega))
      have a := hw.2.1 k hk
      have e := hg.2.1 k hk
      show lp_X10_areApart_20 N x2 (nI T) x5 g (n + 1) (nI r) (nI k) = _
      rw [lp_X10_areApart_20_s, hg.1.2.1, if_neg (nI_ge (by omega) (by omega))]
      simp only [sq]
      rw [gi_in _ (by omega) (by decide), gi_in _ (by omega) (by decide), gi_in _ (by omega) (by decide), gi_in _ (by omega) (by decide), cl_nI (by omega), e.1, e.2, bitI hT (by omega), bitI (by omega) (by omega), bitI (by omega) (by omega), sh_l (by omega), sh_l (by omega), or_nI, or_nI, nI_1]
      have h0 : nI r ||| 0 = nI r := by have := or_nI r 0; rwa [Nat.or_zero] at this
      rw [h0]
      unfold stepS
      by_cases c : T.testBit k = true
      · rw [if_pos c, if_neg z10, if_pos trivial, c]; rfl
      · rw [if_neg c, if_pos rfl, show T.testBit k = false by simpa using c]
        by_cases c1 : r.testBit (M 1 k) = true
        · rw [if_pos c1, if_pos rfl, if_neg z10, c1]; rfl
        · rw [if_neg c1, if_neg (show ¬ (0 : Int32) = 1 by decide), show r.testBit (M 1 k) = false by simpa using c1]
          by_cases c2 : r.testBit (M 2 k) = true
          · rw [if_pos c2, if_pos rfl, if_neg z10, c2]; rfl
          · rw [if_neg c2, if_neg (show ¬ (0 : Int32) = 1 by decide), if_pos trivial, show r.testBit (M 2 k) = false by simpa using c2]; rfl)
    (fun n r hI => by
      show lp_X10_areApart_20 N x2 (nI T) x5 g (n + 1) (nI r) (nI (M 0 1)) = _
      rw [lp_X10_areApart_20_s, hg.1.2.1, if_pos (Int32.le_refl _)])
    (M 0 1) 0 s N (by omega) rfl (by omega)
  rw [show lp_X10_areApart_20 N x2 (nI T) x5 g N (nI s) 0 = _ from e, h1]
theorem apartG {g : mM} {M : tM} (hw : WF M) (hg : TG g M) {T a b : Nat} (hT : T < 2 ^ 20) (ha : a < M 0 0) (hbn : b < M 0 0) {N : Nat} (hN : 100 ≤ N) : q_X10_areApart N (nI a) (nI b) (nI T) g = some (if sepT M a b T then 1 else 0) := by
  have hb := hw.1
  unfold q_X10_areApart
  simp only [sq]
  rw [sh_l (by omega)]
  obtain ⟨s', e, h1⟩ := for_ex (σ := Nat) (fun n k s => lp_X10_areApart_8 N (nI b) (nI T) g n (nI s) (nI k)) (M 0 0) (fun k r => r = itr M T a k) (fun r => some (nI r))
    (fun n k r hk hI => by
      refine ⟨sw M T r (M 0 1), ?_, by subst hI; rfl⟩
      show lp_X10_areApart_8 N (nI b) (nI T) g (n + 1) (nI r) (nI k) = _
      rw [lp_X10_areApart_8_s, hg.1.1, if_neg (nI_ge (by omega) (by omega)), apart20 hw hg hT (by subst hI; exact itr_bits hw ha k) _ _ hN, bi_some]
      simp only [sq]
      rw [nI_1])
    (fun n r hI => by
      show lp_X10_areApart_8 N (nI b) (nI T) g (n + 1) (nI r) (nI (M 0 0)) = _
      rw [lp_X10_areApart_8_s, hg.1.1, if_pos (Int32.le_refl _)])
    (M 0 0) 0 (2 ^ a) N (by omega) rfl (by omega)
  have hr : s' < 64 := bits64 hw (by subst h1; exact itr_bits hw ha _)
  rw [show lp_X10_areApart_8 N (nI b) (nI T) g N (nI (2 ^ a)) 0 = _ from e, bi_some, bitI (by omega) (by omega), rz0, rz1, h1]
  unfold sepT
  by_cases c : (itr M T a (M 0 0)).testBit b = true
  · rw [if_pos c, if_neg z10, c]; rfl
  · rw [if_neg c, if_pos rfl, show (itr M T a (M 0 0)).testBit b = false by simpa using c]; rfl
theorem oftenG {g : mM} {M : tM} {S : Nat → Nat} (hw : WF M) (hg : TG g M) (hS : ∀ k, k < 9 → S k ≤ 9) (h8 : ∀ k, k < 9 → g 8 k = nI (S k)) {T w : Nat} (hT : T < 2 ^ 20) (hw1 : 1 ≤ w) (hw3 : w ≤ 3) {N : Nat} (hN : 100 ≤ N) : q_X10_oftenBy N (nI T) (nI w) g = some (nI (sm (sB S w T) (M 0 1))) := by
  have hb := hw.1
  unfold q_X10_oftenBy
  obtain ⟨s', e, h1⟩ := for_ex (σ := Nat) (fun n k s => lp_X10_oftenBy_5 N (nI T) (nI w) g n (nI s) (nI k)) (M 0 1) (fun k r => r = sm (sB S w T) k) (fun r => some (nI r))
    (fun n k r hk hI => by
      refine ⟨r + sB S w T k, ?_, by subst hI; rfl⟩
      have := hS k (by omega)
      show lp_X10_oftenBy_5 N (nI T) (nI w) g (n + 1) (nI r) (nI k) = _
      rw [lp_X10_oftenBy_5_s, hg.1.2.1, if_neg (nI_ge (by omega) (by omega))]
      simp only [sq]
      rw [gi_in _ (by omega) (by decide), cl_nI (by omega), h8 k (by omega), bitI hT (by omega), nz, if_neg (nI_ne0 (by omega) (by omega)), pk_div (by omega) (by omega) (by omega), nI_add, nI_1]
      unfold sB
      by_cases c : T.testBit k = true
      · rw [if_pos c, if_pos c, if_pos rfl]
      · rw [if_neg c, if_neg c, if_neg (show ¬ (0 : Int32) = 1 by decide), show nI r + 0 = nI (r + 0) from nI_add r 0])
    (fun n r hI => by
      show lp_X10_oftenBy_5 N (nI T) (nI w) g (n + 1) (nI r) (nI (M 0 1)) = _
      rw [lp_X10_oftenBy_5_s, hg.1.2.1, if_pos (Int32.le_refl _)])
    (M 0 1) 0 0 N (by omega) rfl (by omega)
  rw [show lp_X10_oftenBy_5 N (nI T) (nI w) g N 0 0 = _ from e, bi_some, h1]
theorem sB_le {M : tM} {S : Nat → Nat} (hw : WF M) (hS : ∀ k, k < 9 → S k ≤ 9) (w T : Nat) : sm (sB S w T) (M 0 1) ≤ 81 := by
  have hb := hw.1
  have := sm_le (S := sB S w T) (fun k hk => by
    unfold sB
    split
    · exact Nat.le_trans (Nat.div_le_self _ _) (hS k hk)
    · omega) (M 0 1) (by omega)
  omega
def cI (o : Option Nat) : Int32 := match o with
  | none => -9
  | some T => nI T
theorem p512 {n : Nat} (h : n ≤ 9) : 2 ^ n ≤ 512 := Nat.pow_le_pow_right (n := 2) (by omega) h
theorem cutG {g : mM} {M : tM} {S : Nat → Nat} (hw : WF M) (hg : TG g M) (hS : ∀ k, k < 9 → S k ≤ 9) (h8 : ∀ k, k < 9 → g 8 k = nI (S k)) {w a b : Nat} (hw1 : 1 ≤ w) (hw3 : w ≤ 3) (ha : a < M 0 0) (hbn : b < M 0 0) (hab : a ≠ b) {N : Nat} (hN : 1000 ≤ N) : ∃ T, q_X10_cutOf N (nI w) (nI a) (nI b) g = some (nI T) ∧ T < 2 ^ M 0 1 ∧ sepT M a b T = true ∧ ∀ T', T' < 2 ^ M 0 1 → sepT M a b T' = true → sm (sB S w T) (M 0 1) < sm (sB S w T') (M 0 1) ∨ sm (sB S w T) (M 0 1) = sm (sB S w T') (M 0 1) ∧ T ≤ T' := by
  have hb := hw.1
  have h512 := p512 hb.2.2.1
  unfold q_X10_cutOf
  obtain ⟨s', e, h1⟩ := for_ex (σ := Option Nat) (fun n k s => lp_X10_cutOf_7 N (nI w) (nI a) (nI b) g n (cI s) (nI k)) (2 ^ M 0 1)
    (fun i o => match o with
      | none => ∀ T', T' < i → sepT M a b T' = false
      | some T => T < i ∧ sepT M a b T = true ∧ ∀ T', T' < i → sepT M a b T' = true → sm (sB S w T) (M 0 1) < sm (sB S w T') (M 0 1) ∨ sm (sB S w T) (M 0 1) = sm (sB S w T') (M 0 1) ∧ T ≤ T') (fun o => some (cI o))
    (fun n i o hi hI => by
      show ∃ s', lp_X10_cutOf_7 N (nI w) (nI a) (nI b) g (n + 1) (cI o) (nI i) = _ ∧ _
      rw [lp_X10_cutOf_7_s, hg.1.2.1, sh_l10 (by omega), if_neg (nI_ge hi (by omega))]
      simp only [sq]
      rw [nI_1, apartG hw hg (by omega) ha hbn (by omega), bi_some]
      cases o with
      | none =>
        have hI : ∀ T', T' < i → sepT M a b T' = false := hI
        rw [if_pos (show cI none = -9 from rfl), if_neg z10]
        by_cases c : sepT M a b i = true
        · rw [if_pos c, if_neg z10]
          refine ⟨some i, rfl, by show i < i + 1; omega, c, fun T' h1 h2 => ?_⟩
          by_cases ce : T' = i
          · subst ce; exact Or.inr ⟨rfl, Nat.le_refl _⟩
          · rw [hI T' (by omega)] at h2; cases h2
        · rw [if_neg c, if_pos rfl]
          refine ⟨none, rfl, fun T' h1 => ?_⟩
          by_cases ce : T' = i
          · subst ce; simpa using c
          · exact hI T' (by omega)
      | some T =>
        obtain ⟨i1, i2, i3⟩ := hI
        rw [show cI (some T) = nI T from rfl, if_neg (show ¬ nI T = -9 by rw [i_eq, nI_toInt (by omega), show (-9 : Int32).toInt = -9 from rfl]; omega), oftenG hw hg hS h8 (by omega) hw1 hw3 (by omega), bi_some, oftenG hw hg hS h8 (by omega) hw1 hw3 (by omega), bi_some]
        have b1 := sB_le hw hS w T
        have b2 := sB_le hw hS w i
        by_cases cs : sm (sB S w T) (M 0 1) ≤ sm (sB S w i) (M 0 1)
        · rw [if_pos (nI_le cs (by omega)), if_pos trivial]
          refine ⟨some T, rfl, by show T < i + 1; omega, i2, fun T' h1 h2 => ?_⟩
          by_cases ce : T' = i
          · subst ce
            omega
          · exact i3 T' (by omega) h2
        · rw [if_neg (nI_ge (by omega) (by omega)), if_neg z10]
          by_cases c : sepT M a b i = true
          · rw [if_pos c, if_neg z10]
            refine ⟨some i, rfl, by show i < i + 1; omega, c, fun T' h1 h2 => ?_⟩
            by_cases ce : T' = i
            · subst ce; exact Or.inr ⟨rfl, Nat.le_refl _⟩
            · have := i3 T' (by omega) h2
              omega
          · rw [if_neg c, if_pos rfl]
            refine ⟨some T, rfl, by show T < i + 1; omega, i2, fun T' h1 h2 => ?_⟩
            by_cases ce : T' = i
            · subst ce; exact absurd h2 c
            · exact i3 T' (by omega) h2)
    (fun n o hI => by
      show lp_X10_cutOf_7 N (nI w) (nI a) (nI b) g (n + 1) (cI o) (nI (2 ^ M 0 1)) = _
      rw [lp_X10_cutOf_7_s, hg.1.2.1, sh_l10 (by omega), if_pos (Int32.le_refl _)])
    (2 ^ M 0 1) 0 none N (by omega) (fun T' h => absurd h (by omega)) (by omega)
  have e : lp_X10_cutOf_7 N (nI w) (nI a) (nI b) g N (-9) 0 = some (cI s') := e
  rw [e, bi_some]
  cases s' with
  | none =>
    have h1 : ∀ T', T' < 2 ^ M 0 1 → sepT M a b T' = false := h1
    have h2 := h1 (cutS M (2 ^ a)) (cutS_lt M _)
    rw [side_sep (by rw [Nat.testBit_two_pow]; simp) (by rw [Nat.testBit_two_pow]; simpa using hab)] at h2
    cases h2
  | some T => exact ⟨T, rfl, h1.1, h1.2.1, h1.2.2⟩
theorem sm_congr {P Q : Nat → Nat} : ∀ n, (∀ k, k < n → P k = Q k) → sm P n = sm Q n := by
  intro n
  induction n with
  | zero => intro _; rfl
  | succ n ih =>
    intro h
    show sm P n + P n = sm Q n + Q n
    rw [ih (fun k hk => h k (by omega)), h n (by omega)]
theorem lookF {f : mM} {M : tM} {S : Nat → Nat} (hw : WF M) (hf : TF f M) (hS : ∀ k, k < 9 → S k ≤ 9) (h24 : ∀ k, k < 9 → f 24 k = nI (S k)) {s w : Nat} (hs : s < 64) (hw1 : 1 ≤ w) (hw3 : w ≤ 3) {N : Nat} (hN : 100 ≤ N) : lp_X0_lookAtSide_8 N (nI s) (nI w) f N 0 0 0 = some (nI (sm (sB S w (cutS M s)) (M 0 1)), nI (cutS M s)) := by
  have hb := hw.1
  obtain ⟨s', e, h1⟩ := for_ex (σ := Nat × Nat) (fun n k r => lp_X0_lookAtSide_8 N (nI s) (nI w) f n (nI r.1) (nI r.2) (nI k)) (M 0 1) (fun k r => r.1 = sm (fun j => if crs M s j then S j / w else 0) k ∧ r.2 = cxb M s k) (fun r => some (nI r.1, nI r.2))
    (fun n k r hk hI => by
      obtain ⟨r1, r2⟩ := r
      obtain ⟨i1, i2⟩ := hI
      have i1 : r1 = _ := i1
      have i2 : r2 = _ := i2
      have a := hw.2.1 k hk
      have e := hf.2.1 k hk
      have h9 := hS k (by omega)
      show ∃ s', lp_X0_lookAtSide_8 N (nI s) (nI w) f (n + 1) (nI r1) (nI r2) (nI k) = _ ∧ _
      rw [lp_X0_lookAtSide_8_s, hf.1.2.1, if_neg (nI_ge (by omega) (by omega))]
      simp only [sq]
      rw [gi_in _ (by omega) (by decide), cl_nI (by omega), e.1, e.2, isIn_eq (by omega) (by omega), bi_some, gi_in _ (by omega) (by decide), isIn_eq (by omega) (by omega), bi_some, nI_1]
      by_cases c : crs M s k = true
      · refine ⟨(r1 + S k / w, r2 ||| 2 ^ k), ?_, ?_, ?_⟩
        · rw [if_neg]
          · unfold q_X0_timesBorne
            rw [if_neg (nI_nle (by omega) (by omega)), gi_in _ (by omega) (by decide), nz, if_neg (nI_ne0 (by omega) (by omega)), cl_nI (by omega), h24 k (by omega), pk_div (by omega) (by omega) (by omega), bi_some, nI_add, sh_l (by omega), or_nI]
          · intro h
            unfold crs at c
            by_cases c1 : s.testBit (M 1 k) = true
            · by_cases c2 : s.testBit (M 2 k) = true
              · rw [c1, c2] at c; exact absurd c (by decide)
              · rw [if_pos c1, if_neg c2] at h; exact absurd h (by decide)
            · by_cases c2 : s.testBit (M 2 k) = true
              · rw [if_neg c1, if_pos c2] at h; exact absurd h (by decide)
              · rw [show s.testBit (M 1 k) = false by simpa using c1, show s.testBit (M 2 k) = false by simpa using c2] at c; exact absurd c (by decide)
        · show r1 + S k / w = sm (fun j => if crs M s j then S j / w else 0) k + (if crs M s k = true then S k / w else 0)
          rw [if_pos c, i1]
        · show r2 ||| 2 ^ k = if crs M s k = true then cxb M s k ||| 2 ^ k else cxb M s k
          rw [if_pos c, i2]
      · refine ⟨(r1, r2), ?_, ?_, ?_⟩
        · rw [if_pos]
          unfold crs at c
          have : s.testBit (M 1 k) = s.testBit (M 2 k) := by simpa using c
          rw [this]
        · show r1 = sm (fun j => if crs M s j then S j / w else 0) k + (if crs M s k = true then S k / w else 0)
          rw [if_neg c, i1, Nat.add_zero]
        · show r2 = if crs M s k = true then cxb M s k ||| 2 ^ k else cxb M s k
          rw [if_neg c, i2])
    (fun n r hI => by
      show lp_X0_lookAtSide_8 N (nI s) (nI w) f (n + 1) (nI r.1) (nI r.2) (nI (M 0 1)) = _
      rw [lp_X0_lookAtSide_8_s, hf.1.2.1, if_pos (Int32.le_refl _)])
    (M 0 1) 0 (0, 0) N (by omega) ⟨rfl, rfl⟩ (by omega)
  rw [show lp_X0_lookAtSide_8 N (nI s) (nI w) f N 0 0 0 = _ from e, h1.1, h1.2]
  rw [show cxb M s (M 0 1) = cutS M s from rfl, sm_congr (P := fun j => if crs M s j then S j / w else 0) (Q := sB S w (cutS M s)) (M 0 1) (fun k hk => ?_)]
  unfold sB
  rw [cutS, cxb_bit]
  simp [hk]
