def vS (a b s : Nat) : Prop := s.testBit a = true ∧ s.testBit b = false
def cJ (M : tM) (S : Nat → Nat) (w a b i ls lb : Nat) : Prop := (∀ s, s < i → vS a b s → ls < sm (sB S w (cutS M s)) (M 0 1) ∨ ls = sm (sB S w (cutS M s)) (M 0 1) ∧ lb ≤ cutS M s) ∧ (ls = 82 ∨ ∃ s, vS a b s ∧ ls = sm (sB S w (cutS M s)) (M 0 1) ∧ lb = cutS M s)
set_option maxHeartbeats 1000000 in
theorem leastF {f : mM} {M : tM} {S : Nat → Nat} (hw : WF M) (hf : TF f M) (hS : ∀ k, k < 9 → S k ≤ 9) (h24 : ∀ k, k < 9 → f 24 k = nI (S k)) {w a b : Nat} (hw1 : 1 ≤ w) (hw3 : w ≤ 3) (ha : a < M 0 0) (hbn : b < M 0 0) (hab : a ≠ b) {N : Nat} (hN : 1000 ≤ N) : ∃ f' ls lb, q_X0_findLeast N (nI w) (nI a) (nI b) f = some f' ∧ (∀ c, c ≠ 40 → f' c = f c) ∧ (∀ k, k ≠ 2 → k ≠ 3 → f' 40 k = f 40 k) ∧ f' 40 2 = nI ls ∧ f' 40 3 = nI lb ∧ ls ≤ 81 ∧ lb < 2 ^ M 0 1 ∧ (∀ s, s < 2 ^ M 0 0 → vS a b s → ls < sm (sB S w (cutS M s)) (M 0 1) ∨ ls = sm (sB S w (cutS M s)) (M 0 1) ∧ lb ≤ cutS M s) ∧ ∃ s, vS a b s ∧ ls = sm (sB S w (cutS M s)) (M 0 1) ∧ lb = cutS M s := by
  have hb := hw.1
  have h512 := p512 hb.2.2.1
  have h64 : 2 ^ M 0 0 ≤ 64 := by
    have := Nat.pow_le_pow_right (n := 2) (by omega) hb.2.1
    omega
  unfold q_X0_findLeast
  simp only [sq]
  obtain ⟨s', e, i1, i2, ls, lb, i3, i4, i5, i6, i7⟩ := for_ex (σ := mM) (fun n k s => lp_X0_findLeast_14 N (nI w) (nI a) (nI b) n (nI k) s) (2 ^ M 0 0)
    (fun i s => (∀ c, c ≠ 40 → s c = f c) ∧ (∀ k, k ≠ 2 → k ≠ 3 → s 40 k = f 40 k) ∧ ∃ ls lb, s 40 2 = nI ls ∧ s 40 3 = nI lb ∧ ls ≤ 82 ∧ lb < 512 ∧ cJ M S w a b i ls lb) (fun s => some s)
    (fun n i s hi hI => by
      obtain ⟨i1, i2, ls, lb, i3, i4, i5, i6, i7, i8⟩ := hI
      have hsf : TF s M := hf.go (fun c h1 h2 => i1 c (by omega))
      have hs24 : ∀ k, k < 9 → s 24 k = nI (S k) := fun k hk => by rw [i1 24 (by decide)]; exact h24 k hk
      show ∃ s', lp_X0_findLeast_14 N (nI w) (nI a) (nI b) (n + 1) (nI i) s = _ ∧ _
      rw [lp_X0_findLeast_14_s, hsf.1.1, sh_l (by omega), if_neg (nI_ge hi (by omega)), isIn_eq (by omega) (by omega), bi_some]
      simp only [sq]
      rw [nI_1, isIn_eq (by omega) (by omega), bi_some]
      have keep : ¬ vS a b i → ∀ s2, s2 < i + 1 → vS a b s2 → ls < sm (sB S w (cutS M s2)) (M 0 1) ∨ ls = sm (sB S w (cutS M s2)) (M 0 1) ∧ lb ≤ cutS M s2 := by
        intro hn s2 h1 h2
        by_cases ce : s2 = i
        · subst ce; exact absurd h2 hn
        · exact i7 s2 (by omega) h2
      by_cases c1 : i.testBit a = true
      · rw [if_pos c1, if_neg z10]
        by_cases c2 : i.testBit b = true
        · rw [if_pos c2, if_neg z10]
          exact ⟨s, rfl, i1, i2, ls, lb, i3, i4, i5, i6, keep (fun h => by have h2 := h.2; rw [c2] at h2; cases h2), i8⟩
        · rw [if_neg c2, if_pos rfl]
          have hv : vS a b i := ⟨c1, by simpa using c2⟩
          have b1 := sB_le hw hS w (cutS M i)
          have b2 := cutS_lt M i
          unfold q_X0_lookAtSide
          rw [lookF hw hsf hS hs24 (by omega) hw1 hw3 (by omega), bi2_some]
          simp only [sq]
          rw [i3, i4]
          have new : ∀ s2, (ls > sm (sB S w (cutS M i)) (M 0 1) ∨ ls = sm (sB S w (cutS M i)) (M 0 1) ∧ cutS M i < lb) → s2 < i + 1 → vS a b s2 → sm (sB S w (cutS M i)) (M 0 1) < sm (sB S w (cutS M s2)) (M 0 1) ∨ sm (sB S w (cutS M i)) (M 0 1) = sm (sB S w (cutS M s2)) (M 0 1) ∧ cutS M i ≤ cutS M s2 := by
            intro s2 hl h1 h2
            by_cases ce : s2 = i
            · subst ce; exact Or.inr ⟨rfl, Nat.le_refl _⟩
            · have := i7 s2 (by omega) h2
              omega
          have fr : (∀ c, c ≠ 40 → st2 (st2 s 40 2 (nI (sm (sB S w (cutS M i)) (M 0 1)))) 40 3 (nI (cutS M i)) c = f c) ∧ (∀ k, k ≠ 2 → k ≠ 3 → st2 (st2 s 40 2 (nI (sm (sB S w (cutS M i)) (M 0 1)))) 40 3 (nI (cutS M i)) 40 k = f 40 k) := ⟨fun c hc => by rw [st2_c hc, st2_c hc]; exact i1 c hc, fun k h2 h3 => by rw [st2_k h3, st2_k h2]; exact i2 k h2 h3⟩
          have fin : (ls > sm (sB S w (cutS M i)) (M 0 1) ∨ ls = sm (sB S w (cutS M i)) (M 0 1) ∧ cutS M i < lb) → ∃ s', bi (some (st2 (st2 s 40 2 (nI (sm (sB S w (cutS M i)) (M 0 1)))) 40 3 (nI (cutS M i)))) (fun f9 => lp_X0_findLeast_14 N (nI w) (nI a) (nI b) n (nI (i + 1)) f9) = lp_X0_findLeast_14 N (nI w) (nI a) (nI b) n (nI (i + 1)) s' ∧ (∀ c, c ≠ 40 → s' c = f c) ∧ (∀ k, k ≠ 2 → k ≠ 3 → s' 40 k = f 40 k) ∧ ∃ ls lb, s' 40 2 = nI ls ∧ s' 40 3 = nI lb ∧ ls ≤ 82 ∧ lb < 512 ∧ cJ M S w a b (i + 1) ls lb := fun hl => ⟨_, rfl, fr.1, fr.2, _, _, by rw [st2_k (by decide), st2_e], st2_e, by omega, by omega, fun s2 => new s2 hl, Or.inr ⟨i, hv, rfl, rfl⟩⟩
          by_cases d1 : sm (sB S w (cutS M i)) (M 0 1) < ls
          · rw [if_pos (nI_lt d1 (by omega))]
            exact fin (Or.inl d1)
          · rw [if_neg (nI_nlt (by omega) (by omega))]
            by_cases d2 : sm (sB S w (cutS M i)) (M 0 1) = ls
            · rw [if_pos (show nI (sm (sB S w (cutS M i)) (M 0 1)) = nI ls by rw [d2])]
              by_cases d3 : lb ≤ cutS M i
              · rw [if_pos (nI_le d3 (by omega)), bi_some]
                refine ⟨s, rfl, i1, i2, ls, lb, i3, i4, i5, i6, fun s2 h1 h2 => ?_, i8⟩
                by_cases ce : s2 = i
                · subst ce; omega
                · exact i7 s2 (by omega) h2
              · rw [if_neg (nI_ge (by omega) (by omega))]
                exact fin (by omega)
            · rw [if_neg (fun h => d2 ((nI_inj (by omega) (by omega)).mp h)), bi_some]
              refine ⟨s, rfl, i1, i2, ls, lb, i3, i4, i5, i6, fun s2 h1 h2 => ?_, i8⟩
              by_cases ce : s2 = i
              · subst ce; omega
              · exact i7 s2 (by omega) h2
      · rw [if_neg c1, if_pos rfl]
        exact ⟨s, rfl, i1, i2, ls, lb, i3, i4, i5, i6, keep (fun h => c1 h.1), i8⟩)
    (fun n s hI => by
      show lp_X0_findLeast_14 N (nI w) (nI a) (nI b) (n + 1) (nI (2 ^ M 0 0)) s = _
      rw [lp_X0_findLeast_14_s, hI.1 3 (by decide), hf.1.1, sh_l (by omega), if_pos (Int32.le_refl _)])
    (2 ^ M 0 0) 0 (st2 (st2 f 40 2 82) 40 3 0) N (by omega) ⟨fun c hc => by rw [st2_c hc, st2_c hc], fun k h2 h3 => by rw [st2_k h3, st2_k h2], 82, 0, by rw [st2_k (by decide), st2_e]; rfl, st2_e, by omega, by omega, fun s h => absurd h (by omega), Or.inl rfl⟩ (by omega)
  have e : lp_X0_findLeast_14 N (nI w) (nI a) (nI b) N 0 (st2 (st2 f 40 2 82) 40 3 0) = some s' := e
  rw [e, bi_some]
  have hva : vS a b (2 ^ a) := ⟨by rw [Nat.testBit_two_pow]; simp, by rw [Nat.testBit_two_pow]; simpa using hab⟩
  have hla := i7.1 (2 ^ a) (Nat.pow_lt_pow_right (by omega) ha) hva
  have b1 := sB_le hw hS w (cutS M (2 ^ a))
  have hex : ∃ s, vS a b s ∧ ls = sm (sB S w (cutS M s)) (M 0 1) ∧ lb = cutS M s := by
    rcases i7.2 with h | h
    · omega
    · exact h
  obtain ⟨s, hs1, hs2, hs3⟩ := hex
  exact ⟨s', ls, lb, rfl, i1, i2, i3, i4, by omega, by rw [hs3]; exact cutS_lt M s, i7.1, s, hs1, hs2, hs3⟩
/-- the least cut, on both sides -/
theorem cut_both {f g : mM} {M : tM} {S : Nat → Nat} (hw : WF M) (hf : TF f M) (hg : TG g M) (hS : ∀ k, k < 9 → S k ≤ 9) (h24 : ∀ k, k < 9 → f 24 k = nI (S k)) (h8 : ∀ k, k < 9 → g 8 k = nI (S k)) {w a b : Nat} (hw1 : 1 ≤ w) (hw3 : w ≤ 3) (ha : a < M 0 0) (hbn : b < M 0 0) (hab : a ≠ b) {N : Nat} (hN : 1000 ≤ N) : ∃ f' ls lb, q_X0_findLeast N (nI w) (nI a) (nI b) f = some f' ∧ (∀ c, c ≠ 40 → f' c = f c) ∧ (∀ k, k ≠ 2 → k ≠ 3 → f' 40 k = f 40 k) ∧ f' 40 2 = nI ls ∧ f' 40 3 = nI lb ∧ ls ≤ 81 ∧ q_X10_cutOf N (nI w) (nI a) (nI b) g = some (nI lb) ∧ q_X10_oftenBy N (nI lb) (nI w) g = some (nI ls) := by
  have hb := hw.1
  have h512 := p512 hb.2.2.1
  obtain ⟨f', ls, lb, e1, e2, e3, e4, e5, e6, e7, e8, s, e9, e10, e11⟩ := leastF hw hf hS h24 hw1 hw3 ha hbn hab hN
  obtain ⟨T, d1, d2, d3, d4⟩ := cutG hw hg hS h8 hw1 hw3 ha hbn hab hN
  obtain ⟨s2, k1, k2, k3, k4, k5⟩ := sep_side hw ha d3 S w
  have l1 := e8 s2 k1 ⟨k2, k3⟩
  have l2 := d4 (cutS M s) (cutS_lt M s) (side_sep e9.1 e9.2)
  rw [← e10, ← e11] at l2
  have hT : T = lb := by omega
  have hTs : sm (sB S w T) (M 0 1) = ls := by omega
  subst hT
  refine ⟨f', ls, T, e1, e2, e3, e4, e5, e6, d1, ?_⟩
  rw [oftenG hw hg hS h8 (by omega) hw1 hw3 (by omega), hTs]
theorem asks_both {f g : mM} {M : tM} (hw : WF M) (hf : TF f M) (hg : TG g M) (x1 x2 x3 x4 : Int32) : ∃ v : Int32, q_X9_asksBetween x1 x2 x3 x4 f = some v ∧ (∀ (k : Option (Int32 × mM)), bi (q_X10_in x1 1 3) (fun y2 => if y2 = 0 then some ((-1), g) else bi (q_X10_arePlaces x2 x3 g) (fun y4 => if y4 = 0 then some ((-1), g) else bi (q_X10_in x4 0 1) (fun y6 => if y6 = 0 then some ((-1), g) else k))) = if v = 0 then some ((-1), g) else k) ∧ (v = 0 ∨ v = 1 ∧ ∃ w a b, 1 ≤ w ∧ w ≤ 3 ∧ a < M 0 0 ∧ b < M 0 0 ∧ a ≠ b ∧ x1 = nI w ∧ x2 = nI a ∧ x3 = nI b ∧ (x4 = 0 ∨ x4 = 1)) := by
  obtain ⟨v2, e4, e5, e6⟩ := placesF hw hf hg x2 x3
  unfold q_X9_asksBetween
  rw [within_eq, in_eq, bi_some, e4, within_eq, rz0, rz1]
  by_cases c : (1 : Int32) ≤ x1 ∧ x1 ≤ 3
  · obtain ⟨w, w1, w3, rfl⟩ := in_nat (a := 1) (b := 3) (by omega) (by omega) c
    rw [if_pos c, if_neg z10, bi_some]
    rcases e6 with rfl | ⟨rfl, a, b, ha, hb, hab, rfl, rfl⟩
    · refine ⟨0, by rw [if_pos rfl], fun k => ?_, Or.inl rfl⟩
      rw [bi_some, if_neg z10, e5, bi_some, if_pos rfl, if_pos rfl]
    · rw [if_neg z10, bi_some]
      rcases wh2 x4 with rfl | rfl | ⟨c0, -, -⟩
      · refine ⟨1, by rw [if_pos (show (0 : Int32) ≤ 0 ∧ (0 : Int32) ≤ 1 by decide), if_neg z10], fun k => ?_, Or.inr ⟨rfl, w, a, b, w1, w3, ha, hb, hab, rfl, rfl, rfl, Or.inl rfl⟩⟩
        rw [bi_some, if_neg z10, e5, bi_some, if_neg z10, in_eq, bi_some, if_pos (show (0 : Int32) ≤ 0 ∧ (0 : Int32) ≤ 1 by decide)]
      · refine ⟨1, by rw [if_pos (show (0 : Int32) ≤ 1 ∧ (1 : Int32) ≤ 1 by decide), if_neg z10], fun k => ?_, Or.inr ⟨rfl, w, a, b, w1, w3, ha, hb, hab, rfl, rfl, rfl, Or.inr rfl⟩⟩
        rw [bi_some, if_neg z10, e5, bi_some, if_neg z10, in_eq, bi_some, if_pos (show (0 : Int32) ≤ 1 ∧ (1 : Int32) ≤ 1 by decide)]
      · refine ⟨0, by rw [if_neg c0, if_pos rfl], fun k => ?_, Or.inl rfl⟩
        rw [bi_some, if_neg z10, e5, bi_some, if_neg z10, in_eq, bi_some, if_neg c0]
  · rw [if_neg c]
    exact ⟨0, by rw [if_pos rfl], fun k => by rw [bi_some, if_pos rfl, if_pos rfl], Or.inl rfl⟩
theorem sim_often {N : Nat} (hN : 1000 ≤ N) : S_often Inv N := by
  intro f t g u hI x1 x2 x3 x4
  obtain ⟨M, hM⟩ := (hI.thr 0).im
  obtain ⟨h0, h1, hw, hf, hg, ⟨S, w0, hn⟩, hk0, hk1⟩ := id hM
  have n8 : ∀ k, k < 9 → f 24 k = nI (S k) := fun k hk => (hn.2.2.2.1 k hk).1
  have n9 : ∀ k, k < 9 → st2 g 0 0 0 8 k = nI (S k) := fun k hk => by have := (hn.2.2.2.1 k hk).2; rwa [Nat.zero_add] at this
  obtain ⟨v, e1, e2, e3⟩ := asks_both hw hf hg x1 x2 x3 x4
  unfold q_X9_often q_X10_often
  simp only [sq]
  rw [e1, bi_some, e2]
  rcases e3 with rfl | ⟨rfl, w, a, b, w1, w3, ha, hb, hab, rfl, rfl, rfl, h4⟩
  · rw [if_pos rfl, if_pos rfl]
    exact ⟨-1, _, _, rfl, rfl, hM.inv⟩
  · rw [if_neg z10, if_neg z10]
    obtain ⟨f', ls, lb, d1, d2, d3, d4, d5, d6, d7, d8⟩ := cut_both hw hf hg hn.1 n8 n9 w1 w3 ha hb hab hN
    have hI' : Inv f' t (st2 g 0 0 0) u := (hM.scr (fun c hc => d2 c (by omega)) (fun _ _ => rfl) (fun _ _ _ => rfl)).inv
    rw [d1, bi_some, d7, bi_some, d8, d4, d5, bi_some]
    rcases h4 with rfl | rfl
    · rw [if_pos rfl, if_neg (show ¬ (0 : Int32) = 1 by decide)]
      exact ⟨nI ls, _, _, rfl, rfl, hI'⟩
    · rw [if_neg z10, if_pos rfl]
      exact ⟨nI lb, _, _, rfl, rfl, hI'⟩
