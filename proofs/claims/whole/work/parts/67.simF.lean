/-! rate -/
theorem rateG {g : mM} {S : Nat → Nat} {np W p : Nat} (x1 : Int32) (hp : g 0 16 = nI np) (hn : np ≤ 9) (h1 : ∀ k, k < 9 → S k ≤ 9) (h : ∀ k, k < 9 → g 8 k = nI (S k)) (hW : W ≤ 9) (hp8 : p < 8) (hw : g 5 p = nI W) {N : Nat} (hN : 100 ≤ N) : lp_X10_rate_35 N x1 (nI p) g N (nI W) 0 = some (nI (W + cn (fun k => decide (W ≤ S k)) np)) := by
  obtain ⟨s', e, hs⟩ := for_ex (σ := Nat) (fun n k s => lp_X10_rate_35 N x1 (nI p) g n (nI s) (nI k)) np (fun k s => s = W + cn (fun k => decide (W ≤ S k)) k) (fun s => some (nI s))
    (fun n k s hk hI => by
      have := h1 k (by omega)
      have step : lp_X10_rate_35 N x1 (nI p) g (n + 1) (nI s) (nI k) = _ := lp_X10_rate_35_s N x1 (nI p) g n (nI s) (nI k)
      rw [hp, if_neg (nI_ge hk (by omega)), gi_in _ (by omega) (by decide), gi_in _ hp8 (by decide), cl_nI (by omega), cl_nI (by omega), h k (by omega), hw] at step
      simp only [sq] at step
      by_cases c : W ≤ S k
      · refine ⟨s + 1, ?_, by subst hI; simp [cn, c]; omega⟩
        show lp_X10_rate_35 N x1 (nI p) g (n + 1) (nI s) (nI k) = _
        rw [step, if_neg (nI_nlt c (by omega)), nI_1, nI_1]
      · refine ⟨s, ?_, by subst hI; simp [cn, c]⟩
        show lp_X10_rate_35 N x1 (nI p) g (n + 1) (nI s) (nI k) = _
        rw [step, if_pos (nI_lt (by omega) (by omega)), nI_1, show nI s + 0 = nI s from nI_add s 0])
    (fun n s hI => by
      show lp_X10_rate_35 N x1 (nI p) g (n + 1) (nI s) (nI np) = _
      rw [lp_X10_rate_35_s, hp]
      exact if_pos (Int32.le_refl _))
    np 0 W N (by omega) rfl (by omega)
  rw [show lp_X10_rate_35 N x1 (nI p) g N (nI W) 0 = some (nI s') from e, hs]
theorem wh6 (x : Int32) : x = 0 ∨ x = 1 ∨ x = 2 ∨ x = 3 ∨ x = 4 ∨ x = 5 ∨ (¬ (0 ≤ x ∧ x ≤ 5) ∧ ¬ x = 0 ∧ ¬ x = 1 ∧ ¬ x = 2 ∧ ¬ x = 3 ∧ ¬ x = 4 ∧ ¬ x = 5) := by
  by_cases h0 : x = 0
  · exact Or.inl h0
  by_cases h1 : x = 1
  · exact Or.inr (Or.inl h1)
  by_cases h2 : x = 2
  · exact Or.inr (Or.inr (Or.inl h2))
  by_cases h3 : x = 3
  · exact Or.inr (Or.inr (Or.inr (Or.inl h3)))
  by_cases h4 : x = 4
  · exact Or.inr (Or.inr (Or.inr (Or.inr (Or.inl h4))))
  by_cases h5 : x = 5
  · exact Or.inr (Or.inr (Or.inr (Or.inr (Or.inr (Or.inl h5)))))
  refine Or.inr (Or.inr (Or.inr (Or.inr (Or.inr (Or.inr ⟨?_, h0, h1, h2, h3, h4, h5⟩)))))
  have g0 := lv_neT h0 (a := 0) rfl
  have g1 := lv_neT h1 (a := 1) rfl
  have g2 := lv_neT h2 (a := 2) rfl
  have g3 := lv_neT h3 (a := 3) rfl
  have g4 := lv_neT h4 (a := 4) rfl
  have g5 := lv_neT h5 (a := 5) rfl
  rw [i_le, i_le, i_0, show (5 : Int32).toInt = 5 from rfl]
  omega
theorem l_add (t a b c : Int64) (h : a + b = c) : t + a + b = t + c := by rw [Int64.add_assoc, h]
theorem Inv.tr {f : mM} {t : Int64} {g : mM} {u : Int64} (h : Inv f t g u) (v : Int64) : Inv f v g v := ⟨rfl, h.2⟩
theorem sim_rate {N : Nat} (hN : 1000 ≤ N) : S_rate Inv N := by
  intro f t g u hI x1 x2
  have hI2 := hI.thr 0
  obtain ⟨h0, h1, M, hw, hf, hg, ⟨S, w, hn⟩, hk0, hk1⟩ := id hI2
  subst h0
  have hb := hw.1
  obtain ⟨n1, n2, n3, n4, n5, n6, n7⟩ := id hn
  have n6 : st2 g 0 0 0 8 9 = nI w := n6
  have n8 : ∀ k, k < 9 → f 24 k = nI (S k) := fun k hk => (n4 k hk).1
  have n9 : ∀ k, k < 9 → st2 g 0 0 0 8 k = nI (S k) := fun k hk => by have := (n4 k hk).2; rwa [Nat.zero_add] at this
  obtain ⟨v, e1, e2, e3⟩ := isPersonF hw hf hg x2
  unfold q_X9_rate q_X10_rate
  simp only [sq, e1, e2, bi_some]
  rcases e3 with rfl | ⟨rfl, p, hp, rfl⟩
  · refine ⟨-1000000, t, _, t, ?_, ?_, hI2⟩
    · rw [if_pos rfl]
    · rw [in_eq, bi_some]
      by_cases c : 0 ≤ x1 ∧ x1 ≤ 5
      · rw [if_pos c, if_neg z10, if_pos rfl]
      · rw [if_neg c, if_pos rfl]
  have w1 := hf.2.2.1 p hp
  have w2 := hg.2.2.1 p hp
  have w3 := hw.2.2.1 p hp
  have hcn := cn9 (P := fun k => decide (M 4 p ≤ S k)) (np := M 0 1) (by omega) (fun k h1 h2 => by simp [n2 k h1 h2]; omega)
  have hG := rateG (N := N) (p := p) (W := M 4 p) x1 hg.1.2.1 (by omega) n1 n9 (by omega) (by omega) w2.1 (by omega)
  have hF := howManyF (W := M 4 p) n1 n8 (by omega) (N := N) (by omega)
  have per : ∀ s : Int64, q_X1_asPerson (nI p) f s = some (nI (M 4 p), s + 1) := fun s => by
    unfold q_X1_asPerson
    simp only [sq]
    rw [gi_in _ (by omega) (by decide), cl_nI (by omega), w1.1]
  have far : ∀ s : Int64, q_X1_asFarmer N (nI p) f s = some (nI (M 4 p + cn (fun k => decide (M 4 p ≤ S k)) 9), s + 11) := fun s => by
    unfold q_X1_asFarmer
    simp only [sq]
    rw [per, bi2_some, gi_in _ (by omega) (by decide), cl_nI (by omega), w1.1, hF, bi_some, nI_add, l_add s 10 1 11 rfl]
  have lea : ∀ s : Int64, q_X1_asLeaper (nI p) f s = some (nI (M 4 p) - nI (M 5 p), s + 101) := fun s => by
    unfold q_X1_asLeaper
    simp only [sq]
    rw [per, bi2_some, gi_in _ (by omega) (by decide), cl_nI (by omega), w1.2, l_add s 100 1 101 rfl]
  rw [if_neg z10]
  unfold q_X1_rateAs
  have P8 : p < 8 := by omega
  rcases wh6 x1 with rfl | rfl | rfl | rfl | rfl | rfl | ⟨c0, c1, c2, c3, c4, c5, c6⟩
  · refine ⟨nI (M 4 p), t + 1, _, t + 1, ?_, ?_, hI2.tr _⟩
    · rw [if_pos rfl, per]; rfl
    · rw [show q_X10_in 0 0 5 = some 1 from by decide, bi_some, if_neg z10, if_neg z10, gi_in _ P8 (by decide), cl_nI (by omega), w2.1, w2.2, hG, bi_some, gi_in _ P8 (by decide), gi_in _ P8 (by decide), if_pos rfl, if_pos rfl, gi_in _ P8 (by decide)]
  · refine ⟨nI (M 4 p + cn (fun k => decide (M 4 p ≤ S k)) 9), t + 11, _, t + 11, ?_, ?_, hI2.tr _⟩
    · rw [if_neg z10, if_pos rfl, far]; rfl
    · rw [show q_X10_in 1 0 5 = some 1 from by decide, bi_some, if_neg z10, if_neg z10, gi_in _ P8 (by decide), cl_nI (by omega), w2.1, w2.2, hG, bi_some, gi_in _ P8 (by decide), gi_in _ P8 (by decide), if_neg z10, if_pos rfl, if_neg z10, if_pos rfl, hcn]
  · refine ⟨nI (M 4 p) - nI (M 5 p), t + 101, _, t + 101, ?_, ?_, hI2.tr _⟩
    · rw [if_neg z20, if_neg z21, if_pos rfl, lea]; rfl
    · rw [show q_X10_in 2 0 5 = some 1 from by decide, bi_some, if_neg z10, if_neg z10, gi_in _ P8 (by decide), cl_nI (by omega), w2.1, w2.2, hG, bi_some, gi_in _ P8 (by decide), gi_in _ P8 (by decide), if_neg z20, if_neg z21, if_pos rfl, if_neg z20, if_neg z21, if_pos rfl]
  · refine ⟨2 * nI (M 4 p + cn (fun k => decide (M 4 p ≤ S k)) 9), t + 1011, _, t + 1011, ?_, ?_, hI2.tr _⟩
    · rw [if_neg z30, if_neg z31, if_neg z32, if_pos rfl]
      unfold q_X1_asCarter
      simp only [sq]
      rw [far, bi2_some, bi2_some, l_add t 1000 11 1011 rfl]
      rfl
    · rw [show q_X10_in 3 0 5 = some 1 from by decide, bi_some, if_neg z10, if_neg z10, gi_in _ P8 (by decide), cl_nI (by omega), w2.1, w2.2, hG, bi_some, gi_in _ P8 (by decide), gi_in _ P8 (by decide), if_neg z30, if_neg z31, if_neg z32, if_pos rfl, if_neg z30, if_neg z31, if_neg z32, if_pos rfl, hcn]
  · refine ⟨nI (M 4 p) - nI (M 5 p) + nI p, t + 10101, _, t + 10101, ?_, ?_, hI2.tr _⟩
    · rw [if_neg z40, if_neg z41, if_neg z42, if_neg z43, if_pos rfl]
      unfold q_X1_asThief
      simp only [sq]
      rw [lea, bi2_some, bi2_some, l_add t 10000 101 10101 rfl]
      rfl
    · rw [show q_X10_in 4 0 5 = some 1 from by decide, bi_some, if_neg z10, if_neg z10, gi_in _ P8 (by decide), cl_nI (by omega), w2.1, w2.2, hG, bi_some, gi_in _ P8 (by decide), gi_in _ P8 (by decide), if_neg z40, if_neg z41, if_neg z42, if_neg z43, if_pos rfl, if_neg z40, if_neg z41, if_neg z42, if_neg z43, if_pos rfl]
  · refine ⟨nI (M 4 p) + nI w, t + 100001, _, t + 100001, ?_, ?_, hI2.tr _⟩
    · rw [if_neg z50, if_neg z51, if_neg z52, if_neg z53, if_neg z54, if_pos rfl]
      unfold q_X1_asBride
      simp only [sq]
      rw [per, bi2_some, bi2_some, l_add t 100000 1 100001 rfl, n5]
      rfl
    · rw [show q_X10_in 5 0 5 = some 1 from by decide, bi_some, if_neg z10, if_neg z10, gi_in _ P8 (by decide), cl_nI (by omega), w2.1, w2.2, hG, bi_some, gi_in _ P8 (by decide), gi_in _ P8 (by decide), if_neg z50, if_neg z51, if_neg z52, if_neg z53, if_neg z54, if_neg z50, if_neg z51, if_neg z52, if_neg z53, if_neg z54, gi_in _ P8 (by decide), gi9, show Int32.toNatClampNeg 9 = 9 from by decide, n6]
  · refine ⟨-1000000, t, _, t, ?_, ?_, hI2⟩
    · rw [if_neg c1, if_neg c2, if_neg c3, if_neg c4, if_neg c5, if_neg c6, bi2_some]
    · rw [in_eq, bi_some, if_neg c0, if_pos rfl]
/-! spent -/
theorem sp_F {a b : Nat} (ha : a ≤ 9) (hb : b ≤ 9) : (if 0 < nI a - nI b then nI a - nI b else 0) = nI (a - b) := by
  have h := pk_sub_toInt (a := a) (b := b) (by omega) (by omega)
  by_cases c : b < a
  · rw [if_pos (by rw [i_lt, i_0, h]; omega), pk_sub (by omega)]
  · rw [if_neg (by rw [i_lt, i_0, h]; omega), show a - b = 0 by omega]; rfl
theorem sp_G {a b : Nat} (ha : a ≤ 9) (hb : b ≤ 9) : (if nI a - nI b ≤ 0 then (some 0 : Option Int32) else some (nI a - nI b)) = some (nI (a - b)) := by
  have h := pk_sub_toInt (a := a) (b := b) (by omega) (by omega)
  by_cases c : b < a
  · rw [if_neg (by rw [i_le, i_0, h]; omega), pk_sub (by omega)]
  · rw [if_pos (by rw [i_le, i_0, h]; omega), show a - b = 0 by omega]; rfl
theorem spentOfG {np : Nat} {f g : mM} {S S2 : Nat → Nat} {w w2 c i : Nat} (hi : i < 2) (hn : NS np f g 23 8 0 S w) (hn2 : NS np f g c 9 (50 * i) S2 w2) {k : Nat} (hk : k < 9) : q_X10_spentOf (nI i) (nI k) g = some (nI (S2 k - S k)) := by
  have a := hn.2.2.2.1 k hk
  have b := hn2.2.2.2.1 k hk
  have a9 := hn.1 k hk
  have b9 := hn2.1 k hk
  rw [Nat.zero_add] at a
  unfold q_X10_spentOf
  rw [show (50 : Int32) * nI i = nI (50 * i) from pk_mul 50 i, nI_add, gi_in _ (by omega) (by decide), gi_in _ (by omega) (by decide)]
  simp only [sq]
  rw [cl_nI (by omega), cl_nI (by omega), a.2, b.2]
  exact sp_G b9 a9
theorem spentByF0 {np : Nat} {f g : mM} {S S2 : Nat → Nat} {w w2 o : Nat} (hn : NS np f g 23 8 0 S w) (hn2 : NS np f g 28 9 o S2 w2) {k : Nat} (hk : k < 9) : q_X6_spentBy_41_28 (nI k) f = some (nI (S2 k - S k)) := by
  have a := hn.2.2.2.1 k hk
  have b := hn2.2.2.2.1 k hk
  unfold q_X6_spentBy_41_28
  rw [gi_in _ hk (by decide), gi_in _ hk (by decide), cl_nI (by omega), show f 24 k = _ from a.1, show f 29 k = _ from b.1, sp_F (hn2.1 k hk) (hn.1 k hk)]
theorem spentByF1 {np : Nat} {f g : mM} {S S2 : Nat → Nat} {w w2 o : Nat} (hn : NS np f g 23 8 0 S w) (hn2 : NS np f g 32 9 o S2 w2) {k : Nat} (hk : k < 9) : q_X6_spentBy_41_32 (nI k) f = some (nI (S2 k - S k)) := by
  have a := hn.2.2.2.1 k hk
  have b := hn2.2.2.2.1 k hk
  unfold q_X6_spentBy_41_32
  rw [gi_in _ hk (by decide), gi_in _ hk (by decide), cl_nI (by omega), show f 24 k = _ from a.1, show f 33 k = _ from b.1, sp_F (hn2.1 k hk) (hn.1 k hk)]
theorem spentAllF0 {f : mM} {np : Nat} {D : Nat → Nat} (hp : f 3 1 = nI np) (hn : np ≤ 9) (h : ∀ k, k < 9 → q_X6_spentBy_41_28 (nI k) f = some (nI (D k))) {N : Nat} (hN : 100 ≤ N) : q_X6_spentByAll_41_28 N f = some (nI (sm D np)) := by
  unfold q_X6_spentByAll_41_28
  obtain ⟨s', e, hs⟩ := for_ex (σ := Nat) (fun n k s => lp_X6_spentByAll_41_28_4 N f n (nI s) (nI k)) np (fun k s => s = sm D k) (fun s => some (nI s))
    (fun n k s hk hI => by
      refine ⟨s + D k, ?_, by subst hI; rfl⟩
      show lp_X6_spentByAll_41_28_4 N f (n + 1) (nI s) (nI k) = _
      rw [lp_X6_spentByAll_41_28_4_s, hp, if_neg (nI_ge hk (by omega)), h k (by omega), bi_some]
      simp only [sq]
      rw [nI_add, nI_1])
    (fun n s hI => by
      show lp_X6_spentByAll_41_28_4 N f (n + 1) (nI s) (nI np) = _
      rw [lp_X6_spentByAll_41_28_4_s, hp]
      exact if_pos (Int32.le_refl _))
    np 0 0 N (by omega) rfl (by omega)
  rw [show lp_X6_spentByAll_41_28_4 N f N 0 0 = some (nI s') from e, bi_some, hs]
theorem spentAllF1 {f : mM} {np : Nat} {D : Nat → Nat} (hp : f 3 1 = nI np) (hn : np ≤ 9) (h : ∀ k, k < 9 → q_X6_spentBy_41_32 (nI k) f = some (nI (D k))) {N : Nat} (hN : 100 ≤ N) : q_X6_spentByAll_41_32 N f = some (nI (sm D np)) := by
  unfold q_X6_spentByAll_41_32
  obtain ⟨s', e, hs⟩ := for_ex (σ := Nat) (fun n k s => lp_X6_spentByAll_41_32_4 N f n (nI s) (nI k)) np (fun k s => s = sm D k) (fun s => some (nI s))
    (fun n k s hk hI => by
      refine ⟨s + D k, ?_, by subst hI; rfl⟩
      show lp_X6_spentByAll_41_32_4 N f (n + 1) (nI s) (nI k) = _
      rw [lp_X6_spentByAll_41_32_4_s, hp, if_neg (nI_ge hk (by omega)), h k (by omega), bi_some]
      simp only [sq]
      rw [nI_add, nI_1])
    (fun n s hI => by
      show lp_X6_spentByAll_41_32_4 N f (n + 1) (nI s) (nI np) = _
      rw [lp_X6_spentByAll_41_32_4_s, hp]
      exact if_pos (Int32.le_refl _))
    np 0 0 N (by omega) rfl (by omega)
  rw [show lp_X6_spentByAll_41_32_4 N f N 0 0 = some (nI s') from e, bi_some, hs]
/-- the reference's sum over all planks, or over one -/
theorem spentG {g : mM} {np : Nat} {D : Nat → Nat} {i : Nat} (x2 : Int32) (hp : g 0 16 = nI np) (hn : np ≤ 9) (h : ∀ k, k < 9 → q_X10_spentOf (nI i) (nI k) g = some (nI (D k))) {N : Nat} (hN : 100 ≤ N) : lp_X10_spent_46 N (nI i) x2 g N 0 0 = some (nI (sm (fun k => if x2 = -1 ∨ x2 = nI k then D k else 0) np)) := by
  obtain ⟨s', e, hs⟩ := for_ex (σ := Nat) (fun n k s => lp_X10_spent_46 N (nI i) x2 g n (nI s) (nI k)) np (fun k s => s = sm (fun k => if x2 = -1 ∨ x2 = nI k then D k else 0) k) (fun s => some (nI s))
    (fun n k s hk hI => by
      have step : lp_X10_spent_46 N (nI i) x2 g (n + 1) (nI s) (nI k) = _ := lp_X10_spent_46_s N (nI i) x2 g n (nI s) (nI k)
      rw [hp, if_neg (nI_ge hk (by omega)), h k (by omega)] at step
      simp only [sq, bi_some] at step
      refine ⟨s + (if x2 = -1 ∨ x2 = nI k then D k else 0), ?_, by subst hI; rfl⟩
      show lp_X10_spent_46 N (nI i) x2 g (n + 1) (nI s) (nI k) = _
      rw [step]
      by_cases c : x2 = -1
      · rw [if_pos c, if_pos (Or.inl c), nI_add, nI_1]
      · rw [if_neg c]
        by_cases c2 : x2 = nI k
        · rw [if_pos c2, if_pos (Or.inr c2), nI_add, nI_1]
        · rw [if_neg c2, if_neg (fun h => h.elim c c2), nI_1, show nI s + 0 = nI (s + 0) from nI_add s 0])
    (fun n s hI => by
      show lp_X10_spent_46 N (nI i) x2 g (n + 1) (nI s) (nI np) = _
      rw [lp_X10_spent_46_s, hp]
      exact if_pos (Int32.le_refl _))
    np 0 0 N (by omega) rfl (by omega)
  rw [show lp_X10_spent_46 N (nI i) x2 g N 0 0 = some (nI s') from e, hs]
theorem sm_all {D : Nat → Nat} (n : Nat) : sm (fun k => if (-1 : Int32) = -1 ∨ (-1 : Int32) = nI k then D k else 0) n = sm D n := by
  induction n with
  | zero => rfl
  | succ n ih =>
    show sm _ n + (if (-1 : Int32) = -1 ∨ (-1 : Int32) = nI n then D n else 0) = sm D n + D n
    rw [ih, if_pos (Or.inl rfl)]
theorem sm_one {D : Nat → Nat} {j : Nat} (hj : j < 2 ^ 30) : ∀ n, n < 2 ^ 30 → sm (fun k => if nI j = -1 ∨ nI j = nI k then D k else 0) n = if j < n then D j else 0 := by
  have hm : ¬ nI j = -1 := by
    rw [i_eq, nI_toInt (by omega), show (-1 : Int32).toInt = -1 from rfl]
    omega
  intro n
  induction n with
  | zero => intro _; rw [if_neg (by omega)]; rfl
  | succ n ih =>
    intro hn
    show sm _ n + (if nI j = -1 ∨ nI j = nI n then D n else 0) = _
    rw [ih (by omega)]
    by_cases c : j = n
    · subst c
      rw [if_neg (by omega), if_pos (Or.inr rfl), if_pos (by omega), Nat.zero_add]
    · rw [if_neg (show ¬ (nI j = -1 ∨ nI j = nI n) from fun h => h.elim hm (fun h => c ((nI_eq (by omega) (by omega)).mp h)))]
      by_cases c2 : j < n
      · rw [if_pos c2, if_pos (by omega)]; rfl
      · rw [if_neg c2, if_neg (by omega)]
theorem sim_spent {N : Nat} (hN : 1000 ≤ N) : S_spent Inv N := by
  intro f t g u hI x1 x2
  have hI2 := hI.thr 0
  obtain ⟨h0, h1, M, hw, hf, hg, ⟨S, w, hn⟩, hk0, hk1⟩ := id hI2
  have hb := hw.1
  obtain ⟨v2, e4, e5, e6⟩ := isPlankF hw hf hg x2
  unfold q_X9_spent q_X10_spent
  simp only [sq]
  rcases wh2 x1 with rfl | rfl | ⟨c0, c1, c2⟩
  · rw [show q_X9_isImage 0 = some 1 from by decide, show q_X10_in 0 0 1 = some 1 from by decide, bi_some, bi_some, if_neg z10, if_neg z10, gi_lit (i := 0) (n := 2) _ (by decide), gi_lit (i := 0) (n := 2) _ (by decide), show Int32.toNatClampNeg 0 = 0 from by decide, e4, e5, bi_some, bi_some]
    obtain ⟨z, z1, z2, z3⟩ := id hk0
    rw [z1, z2]
    have key : ∃ (r : Int32) (g' : mM), (if z = 0 then some (-2) else if (0 : Int32) = 0 then if x2 = -1 then bi (q_X6_spentByAll_41_28 N f) (fun y7 => some y7) else bi (q_X6_spentBy_41_28 x2 f) (fun y5 => some y5) else if (0 : Int32) = 1 then if x2 = -1 then bi (q_X6_spentByAll_41_32 N f) (fun y11 => some y11) else bi (q_X6_spentBy_41_32 x2 f) (fun y9 => some y9) else none) = some r ∧ (if z = 0 then some (-2, st2 g 0 0 0) else bi (lp_X10_spent_46 N 0 x2 (st2 g 0 0 0) N 0 0) (fun y13 => some (y13, st2 g 0 0 0))) = some (r, g') ∧ Inv f t g' u ∨ ¬ (x2 = -1 ∨ ∃ k, k < M 0 1 ∧ x2 = nI k) := by
      by_cases hx : x2 = -1 ∨ ∃ k, k < M 0 1 ∧ x2 = nI k
      · rcases z3 with rfl | ⟨rfl, S2, w2, hn2⟩
        · exact ⟨-2, _, Or.inl ⟨by rw [if_pos rfl], by rw [if_pos rfl], hI2⟩⟩
        · have sG := spentG (i := 0) (D := fun k => S2 k - S k) x2 hg.1.2.1 (by omega) (fun k hk => spentOfG (by omega) hn hn2 hk) (N := N) (by omega)
          have sG : lp_X10_spent_46 N 0 x2 (st2 g 0 0 0) N 0 0 = _ := sG
          rw [if_neg z10, if_neg z10, if_pos rfl, sG, bi_some]
          rcases hx with rfl | ⟨k, hk, rfl⟩
          · rw [if_pos rfl, spentAllF0 (D := fun k => S2 k - S k) hf.1.2.1 (by omega) (fun k hk => spentByF0 hn hn2 hk) (by omega), bi_some, sm_all]
            exact ⟨_, _, Or.inl ⟨rfl, rfl, hI2⟩⟩
          · rw [if_neg (by rw [i_eq, nI_toInt (by omega), show (-1 : Int32).toInt = -1 from rfl]; omega), spentByF0 hn hn2 (by omega), bi_some, sm_one (by omega) _ (by omega), if_pos hk]
            exact ⟨_, _, Or.inl ⟨rfl, rfl, hI2⟩⟩
      · exact ⟨0, f, Or.inr hx⟩
    revert key
    generalize (if z = 0 then some (-2) else if (0 : Int32) = 0 then if x2 = -1 then bi (q_X6_spentByAll_41_28 N f) (fun y7 => some y7) else bi (q_X6_spentBy_41_28 x2 f) (fun y5 => some y5) else if (0 : Int32) = 1 then if x2 = -1 then bi (q_X6_spentByAll_41_32 N f) (fun y11 => some y11) else bi (q_X6_spentBy_41_32 x2 f) (fun y9 => some y9) else none) = T1
    generalize (if z = 0 then some (-2, st2 g 0 0 0) else bi (lp_X10_spent_46 N 0 x2 (st2 g 0 0 0) N 0 0) (fun y13 => some (y13, st2 g 0 0 0))) = T2
    intro key
    by_cases cm  : x2 = -1
    · rw [if_pos cm, if_pos cm]
      obtain ⟨r, g', h | h⟩ := key
      · exact ⟨r, g', h⟩
      · exact absurd (Or.inl cm) h
    · rw [if_neg cm, if_neg cm]
      rcases e6 with rfl | ⟨rfl, k, hk, rfl⟩
      · rw [if_pos rfl, if_pos rfl]
        exact ⟨-1, _, rfl, rfl, hI2⟩
      · rw [if_neg z10, if_neg z10]
        obtain ⟨r, g', h | h⟩ := key
        · exact ⟨r, g', h⟩
        · exact absurd (Or.inr ⟨k, hk, rfl⟩) h
  · rw [show q_X9_isImage 1 = some 1 from by decide, show q_X10_in 1 0 1 = some 1 from by decide, bi_some, bi_some, if_neg z10, if_neg z10, if_neg z10, gi_lit (i := 1) (n := 2) _ (by decide), gi_lit (i := 1) (n := 2) _ (by decide), show Int32.toNatClampNeg 1 = 1 from by decide, e4, e5, bi_some, bi_some]
    obtain ⟨z, z1, z2, z3⟩ := id hk1
    rw [z1, z2]
    have key : ∃ (r : Int32) (g' : mM), (if z = 0 then some (-2) else if (1 : Int32) = 1 then if x2 = -1 then bi (q_X6_spentByAll_41_32 N f) (fun y11 => some y11) else bi (q_X6_spentBy_41_32 x2 f) (fun y9 => some y9) else none) = some r ∧ (if z = 0 then some (-2, st2 g 0 0 0) else bi (lp_X10_spent_46 N 1 x2 (st2 g 0 0 0) N 0 0) (fun y13 => some (y13, st2 g 0 0 0))) = some (r, g') ∧ Inv f t g' u ∨ ¬ (x2 = -1 ∨ ∃ k, k < M 0 1 ∧ x2 = nI k) := by
      by_cases hx : x2 = -1 ∨ ∃ k, k < M 0 1 ∧ x2 = nI k
      · rcases z3 with rfl | ⟨rfl, S2, w2, hn2⟩
        · exact ⟨-2, _, Or.inl ⟨by rw [if_pos rfl], by rw [if_pos rfl], hI2⟩⟩
        · have sG := spentG (i := 1) (D := fun k => S2 k - S k) x2 hg.1.2.1 (by omega) (fun k hk => spentOfG (by omega) hn hn2 hk) (N := N) (by omega)
          have sG : lp_X10_spent_46 N 1 x2 (st2 g 0 0 0) N 0 0 = _ := sG
          rw [if_neg z10, if_neg z10, if_pos rfl, sG, bi_some]
          rcases hx with rfl | ⟨k, hk, rfl⟩
          · rw [if_pos rfl, spentAllF1 (D := fun k => S2 k - S k) hf.1.2.1 (by omega) (fun k hk => spentByF1 hn hn2 hk) (by omega), bi_some, sm_all]
            exact ⟨_, _, Or.inl ⟨rfl, rfl, hI2⟩⟩
          · rw [if_neg (by rw [i_eq, nI_toInt (by omega), show (-1 : Int32).toInt = -1 from rfl]; omega), spentByF1 hn hn2 (by omega), bi_some, sm_one (by omega) _ (by omega), if_pos hk]
            exact ⟨_, _, Or.inl ⟨rfl, rfl, hI2⟩⟩
      · exact ⟨0, f, Or.inr hx⟩
    revert key
    generalize (if z = 0 then some (-2) else if (1 : Int32) = 1 then if x2 = -1 then bi (q_X6_spentByAll_41_32 N f) (fun y11 => some y11) else bi (q_X6_spentBy_41_32 x2 f) (fun y9 => some y9) else none) = T1
    generalize (if z = 0 then some (-2, st2 g 0 0 0) else bi (lp_X10_spent_46 N 1 x2 (st2 g 0 0 0) N 0 0) (fun y13 => some (y13, st2 g 0 0 0))) = T2
    intro key
    by_cases cm  : x2 = -1
    · rw [if_pos cm, if_pos cm]
      obtain ⟨r, g', h | h⟩ := key
      · exact ⟨r, g', h⟩
      · exact absurd (Or.inl cm) h
    · rw [if_neg cm, if_neg cm]
      rcases e6 with rfl | ⟨rfl, k, hk, rfl⟩
      · rw [if_pos rfl, if_pos rfl]
        exact ⟨-1, _, rfl, rfl, hI2⟩
      · rw [if_neg z10, if_neg z10]
        obtain ⟨r, g', h | h⟩ := key
        · exact ⟨r, g', h⟩
        · exact absurd (Or.inr ⟨k, hk, rfl⟩) h
  · rw [isImage_eq, in_eq, bi_some, bi_some, if_neg c0, if_pos rfl, if_pos rfl]
    exact ⟨-1, _, rfl, rfl, hI2⟩
