/-! which two planks to exchange -/
theorem st2_same {F G : mM} {c k : Nat} {v : Int32} (h : F c = G c) : st2 F c k v c = st2 G c k v c := by
  funext j
  rw [st2_at, st2_at, h]
theorem swap2 (g : mM) (c i j : Nat) : st2 (st2 (st2 (st2 g c i (g c j)) c j (g c i)) c i (st2 (st2 g c i (g c j)) c j (g c i) c j)) c j (st2 (st2 g c i (g c j)) c j (g c i) c i) = g := by
  funext d k
  simp only [st2_at]
  by_cases hd : d = c
  · subst hd
    by_cases h1 : k = j
    · subst h1
      by_cases h2 : i = k
      · subst h2; simp
      · simp [h2]
    · by_cases h2 : k = i
      · subst h2; simp [h1]
      · simp [h1, h2]
  · simp [hd]
theorem swapF {f : mM} {i j : Nat} (hi : i < 9) (hj : j < 9) : q_X3_swap (nI i) (nI j) f = some (st2 (st2 f 24 i (f 24 j)) 24 j (f 24 i)) := by
  unfold q_X3_swap
  simp only [sq]
  rw [gi_in _ (by omega) (by decide), gi_in _ (by omega) (by decide), gi_in _ (by omega) (by decide), gi_in _ (by omega) (by decide), cl_nI (by omega), cl_nI (by omega)]
theorem changesG {g : mM} {i j : Nat} (hi : i < 9) (hj : j < 9) : q_X10_changes (nI i) (nI j) g = some (st2 (st2 g 8 i (g 8 j)) 8 j (g 8 i)) := by
  unfold q_X10_changes
  simp only [sq]
  rw [gi_in _ (by omega) (by decide), gi_in _ (by omega) (by decide), gi_in _ (by omega) (by decide), gi_in _ (by omega) (by decide), cl_nI (by omega), cl_nI (by omega)]
theorem swp_S {f : mM} {S : Nat → Nat} {c i j : Nat} (hi : i < 9) (hj : j < 9) (h : ∀ k, k < 9 → f c k = nI (S k)) : ∀ k, k < 9 → st2 (st2 f c i (f c j)) c j (f c i) c k = nI (upN (upN S i (S j)) j (S i) k) := by
  intro k hk
  rw [h i hi, h j hj]
  by_cases h1 : k = j
  · subst h1; rw [st2_e, upN_e]
  · rw [st2_k h1, upN_n h1]
    by_cases h2 : k = i
    · subst h2; rw [st2_e, upN_e]
    · rw [st2_k h2, upN_n h2, h k hk]
theorem swp_9 {S : Nat → Nat} {i j : Nat} (hi : i < 9) (hj : j < 9) (h : ∀ k, k < 9 → S k ≤ 9) : ∀ k, k < 9 → upN (upN S i (S j)) j (S i) k ≤ 9 := by
  intro k hk
  by_cases h1 : k = j
  · subst h1; rw [upN_e]; exact h i hi
  · rw [upN_n h1]
    by_cases h2 : k = i
    · subst h2; rw [upN_e]; exact h j hj
    · rw [upN_n h2]; exact h k hk
def bR (f' : mM) (x5 x6 : Int32) (np lim : Nat) (fl : Prop) : Prop := (f' 40 4 = -1 ∧ f' 40 5 = -9 ∧ x5 = -9 ∧ x6 = -9 ∧ fl) ∨ ∃ v c, v ≤ 81 ∧ c < lim ∧ f' 40 4 = nI v ∧ x6 = nI v ∧ f' 40 5 = nI c ∧ x5 = nI c ∧ 2 ≤ np
set_option maxHeartbeats 1000000 in
theorem bett61 {f g : mM} {M : tM} {S : Nat → Nat} (hw : WF M) (hf : TF f M) (hg : TG g M) (hS : ∀ k, k < 9 → S k ≤ 9) (h24 : ∀ k, k < 9 → f 24 k = nI (S k)) (h8 : ∀ k, k < 9 → g 8 k = nI (S k)) {w a b : Nat} (hw1 : 1 ≤ w) (hw3 : w ≤ 3) (ha : a < M 0 0) (hbn : b < M 0 0) (hab : a ≠ b) {N : Nat} (hN : 1000 ≤ N) (x4 : Int32) {i : Nat} (hi : i < M 0 1) (fl : Prop) : ∀ c j n (f' : mM) (x5 x6 : Int32), j + c = M 0 1 → i < j → c < n → (∀ d, d ≠ 40 → f' d = f d) → bR f' x5 x6 (M 0 1) (10 * i + j) (j = i + 1 ∧ fl) → ∃ f2 y5 y6, lp_X0_findBestExchange_32 N (nI w) (nI a) (nI b) (nI i) n (nI j) f' = some f2 ∧ lp_X10_better_61 N (nI w) (nI a) (nI b) x4 (nI i) n x5 x6 (nI j) g = some (y5, y6, g) ∧ (∀ d, d ≠ 40 → f2 d = f d) ∧ bR f2 y5 y6 (M 0 1) (10 * i + 10) (M 0 1 = i + 1 ∧ fl) := by
  have hb := hw.1
  intro c
  induction c with
  | zero =>
    intro j n f' x5 x6 hj hij hn h1 h2
    obtain ⟨n, rfl⟩ : ∃ j, n = j + 1 := ⟨n - 1, by omega⟩
    have hj : j = M 0 1 := by omega
    refine ⟨f', x5, x6, ?_, ?_, h1, ?_⟩
    · rw [lp_X0_findBestExchange_32_s, h1 3 (by decide), hf.1.2.1, hj, if_pos (Int32.le_refl _)]
    · rw [lp_X10_better_61_s, hg.1.2.1, hj, if_pos (Int32.le_refl _)]
    · rcases h2 with ⟨a1, a2, a3, a4, a5⟩ | ⟨v, c, a1, a2, a3⟩
      · exact Or.inl ⟨a1, a2, a3, a4, by rw [← hj]; exact a5⟩
      · exact Or.inr ⟨v, c, a1, by omega, a3⟩
  | succ c ih =>
    intro j n f' x5 x6 hj hij hn h1 h2
    obtain ⟨n, rfl⟩ : ∃ j, n = j + 1 := ⟨n - 1, by omega⟩
    have hi9 : i < 9 := by omega
    have hj9 : j < 9 := by omega
    have cF := lp_X0_findBestExchange_32_s N (nI w) (nI a) (nI b) (nI i) n (nI j) f'
    have cG := lp_X10_better_61_s N (nI w) (nI a) (nI b) x4 (nI i) n x5 x6 (nI j) g
    rw [h1 3 (by decide), hf.1.2.1, if_neg (nI_ge (by omega) (by omega)), swapF hi9 hj9, bi_some] at cF
    rw [hg.1.2.1, if_neg (nI_ge (by omega) (by omega)), changesG hi9 hj9, bi_some] at cG
    have hF1 : TF (st2 (st2 f' 24 i (f' 24 j)) 24 j (f' 24 i)) M := hf.go (fun d a b => by rw [st2_c (by omega), st2_c (by omega)]; exact h1 d (by omega))
    have hG1 : TG (st2 (st2 g 8 i (g 8 j)) 8 j (g 8 i)) M := hg.go (fun d a b => by rw [st2_c (by omega), st2_c (by omega)]) (fun k a b => by rw [st2_c (by decide), st2_c (by decide)])
    obtain ⟨f6, ls, lb, d1, d2, d3, d4, d5, d6, d7, d8⟩ := cut_both hw hF1 hG1 (swp_9 hi9 hj9 hS) (swp_S hi9 hj9 (fun k hk => by rw [h1 24 (by decide)]; exact h24 k hk)) (swp_S hi9 hj9 h8) hw1 hw3 ha hbn hab hN
    rw [d1, bi_some, swapF hi9 hj9, bi_some] at cF
    rw [d7, bi_some, d8, bi_some, changesG hi9 hj9, bi_some, swap2] at cG
    simp only [sq] at cF cG
    rw [d2 24 (by decide)] at cF
    obtain ⟨f8, hf8⟩ : ∃ f8, f8 = st2 (st2 f6 24 i (st2 (st2 f' 24 i (f' 24 j)) 24 j (f' 24 i) 24 j)) 24 j (st2 (st2 f' 24 i (f' 24 j)) 24 j (f' 24 i) 24 i) := ⟨_, rfl⟩
    rw [← hf8] at cF
    have e40 : f8 40 = f6 40 := by rw [hf8, st2_c (by decide), st2_c (by decide)]
    have e1 : ∀ d, d ≠ 40 → f8 d = f d := by
      intro d hd
      by_cases h : d = 24
      · subst h
        have := congrFun (swap2 f' 24 i j) 24
        rw [← h1 24 (by decide), ← this, hf8]
        exact st2_same (st2_same (d2 24 (by decide)))
      · rw [hf8, st2_c h, st2_c h, d2 d hd, st2_c h, st2_c h]
        exact h1 d hd
    rw [show (10 : Int32) * nI i = nI (10 * i) from pk_mul 10 i, nI_add, nI_1, e40, d4, d3 4 (by decide) (by decide), st2_c (show (40 : Nat) ≠ 24 by decide), st2_c (show (40 : Nat) ≠ 24 by decide)] at cF
    rw [show (10 : Int32) * nI i = nI (10 * i) from pk_mul 10 i, nI_add, nI_1] at cG
    have e404 : f8 40 4 = f' 40 4 := by rw [e40, d3 4 (by decide) (by decide), st2_c (by decide), st2_c (by decide)]
    have e405 : f8 40 5 = f' 40 5 := by rw [e40, d3 5 (by decide) (by decide), st2_c (by decide), st2_c (by decide)]
    have frN : ∀ d, d ≠ 40 → st2 (st2 f8 40 4 (nI ls)) 40 5 (nI (10 * i + j)) d = f d := fun d hd => by rw [st2_c hd, st2_c hd]; exact e1 d hd
    have bN : bR (st2 (st2 f8 40 4 (nI ls)) 40 5 (nI (10 * i + j))) (nI (10 * i + j)) (nI ls) (M 0 1) (10 * i + (j + 1)) (j + 1 = i + 1 ∧ fl) := Or.inr ⟨ls, 10 * i + j, d6, by omega, by rw [st2_k (by decide), st2_e], rfl, st2_e, rfl, by omega⟩
    rcases h2 with ⟨a1, a2, a3, a4, a5⟩ | ⟨v, c0, a1, a2, a3, a4, a5, a6, a7⟩
    · rw [a1, if_neg (show ¬ nI ls ≤ -1 by rw [i_le, nI_toInt (by omega), show (-1 : Int32).toInt = -1 from rfl]; omega)] at cF
      rw [a3, if_pos rfl] at cG
      obtain ⟨f2, y5, y6, r1, r2, r3, r4⟩ := ih (j + 1) n _ _ _ (by omega) (by omega) (by omega) frN bN
      exact ⟨f2, y5, y6, cF.trans r1, by rw [a3, cG]; exact r2, r3, r4⟩
    · rw [a3] at cF
      rw [a6, a4, if_neg (show ¬ nI c0 = -9 by rw [i_eq, nI_toInt (by omega), show (-9 : Int32).toInt = -9 from rfl]; omega)] at cG
      by_cases cv : ls ≤ v
      · rw [if_pos (nI_le cv (by omega))] at cF
        rw [if_pos (nI_le cv (by omega)), if_neg (fun h => by have := (nI_inj (by omega) (by omega)).mp h; omega)] at cG
        obtain ⟨f2, y5, y6, r1, r2, r3, r4⟩ := ih (j + 1) n f8 (nI c0) (nI v) (by omega) (by omega) (by omega) e1 (Or.inr ⟨v, c0, a1, by omega, by rw [e404]; exact a3, rfl, by rw [e405]; exact a5, rfl, a7⟩)
        exact ⟨f2, y5, y6, cF.trans r1, by rw [a6, a4, cG]; exact r2, r3, r4⟩
      · rw [if_neg (nI_ge (by omega) (by omega))] at cF
        rw [if_neg (nI_ge (by omega) (by omega))] at cG
        obtain ⟨f2, y5, y6, r1, r2, r3, r4⟩ := ih (j + 1) n _ _ _ (by omega) (by omega) (by omega) frN bN
        exact ⟨f2, y5, y6, cF.trans r1, by rw [a6, a4, cG]; exact r2, r3, r4⟩
theorem bett46 {f g : mM} {M : tM} {S : Nat → Nat} (hw : WF M) (hf : TF f M) (hg : TG g M) (hS : ∀ k, k < 9 → S k ≤ 9) (h24 : ∀ k, k < 9 → f 24 k = nI (S k)) (h8 : ∀ k, k < 9 → g 8 k = nI (S k)) {w a b : Nat} (hw1 : 1 ≤ w) (hw3 : w ≤ 3) (ha : a < M 0 0) (hbn : b < M 0 0) (hab : a ≠ b) {N : Nat} (hN : 1000 ≤ N) (x4 : Int32) : ∀ c i n (f' : mM) (x5 x6 : Int32), i + c = M 0 1 → c < n → (∀ d, d ≠ 40 → f' d = f d) → bR f' x5 x6 (M 0 1) (10 * i) (i = 0 ∨ M 0 1 < 2) → ∃ f2 y5 y6, lp_X0_findBestExchange_14 N (nI w) (nI a) (nI b) n (nI i) f' = some f2 ∧ lp_X10_better_46 N (nI w) (nI a) (nI b) x4 n x5 x6 (nI i) g = some (y5, y6, g) ∧ (∀ d, d ≠ 40 → f2 d = f d) ∧ bR f2 y5 y6 (M 0 1) 100 (M 0 1 < 2) := by
  have hb := hw.1
  intro c
  induction c with
  | zero =>
    intro i n f' x5 x6 hi hn h1 h2
    obtain ⟨n, rfl⟩ : ∃ j, n = j + 1 := ⟨n - 1, by omega⟩
    have hi : i = M 0 1 := by omega
    refine ⟨f', x5, x6, ?_, ?_, h1, ?_⟩
    · rw [lp_X0_findBestExchange_14_s, h1 3 (by decide), hf.1.2.1, hi, if_pos (Int32.le_refl _)]
    · rw [lp_X10_better_46_s, hg.1.2.1, hi, if_pos (Int32.le_refl _)]
    · rcases h2 with ⟨a1, a2, a3, a4, a5⟩ | ⟨v, c, a1, a2, a3⟩
      · exact Or.inl ⟨a1, a2, a3, a4, by omega⟩
      · exact Or.inr ⟨v, c, a1, by omega, a3⟩
  | succ c ih =>
    intro i n f' x5 x6 hi hn h1 h2
    obtain ⟨n, rfl⟩ : ∃ j, n = j + 1 := ⟨n - 1, by omega⟩
    have h3 : bR f' x5 x6 (M 0 1) (10 * i + (i + 1)) (i + 1 = i + 1 ∧ (i = 0 ∨ M 0 1 < 2)) := by
      rcases h2 with ⟨a1, a2, a3, a4, a5⟩ | ⟨v, c, a1, a2, a3⟩
      · exact Or.inl ⟨a1, a2, a3, a4, rfl, a5⟩
      · exact Or.inr ⟨v, c, a1, by omega, a3⟩
    obtain ⟨f2, y5, y6, r1, r2, r3, r4⟩ := bett61 hw hf hg hS h24 h8 hw1 hw3 ha hbn hab hN x4 (i := i) (by omega) (i = 0 ∨ M 0 1 < 2) (M 0 1 - (i + 1)) (i + 1) N f' x5 x6 (by omega) (by omega) (by omega) h1 h3
    obtain ⟨f3, z5, z6, s1, s2, s3, s4⟩ := ih (i + 1) n f2 y5 y6 (by omega) (by omega) r3 (by
      rcases r4 with ⟨a1, a2, a3, a4, a5, a6⟩ | ⟨v, c, a1, a2, a3⟩
      · exact Or.inl ⟨a1, a2, a3, a4, by omega⟩
      · exact Or.inr ⟨v, c, a1, by omega, a3⟩)
    refine ⟨f3, z5, z6, ?_, ?_, s3, s4⟩
    · rw [lp_X0_findBestExchange_14_s, h1 3 (by decide), hf.1.2.1, if_neg (nI_ge (by omega) (by omega))]
      simp only [sq]
      rw [nI_1, r1, bi_some]
      exact s1
    · rw [lp_X10_better_46_s, hg.1.2.1, if_neg (nI_ge (by omega) (by omega))]
      simp only [sq]
      rw [nI_1, r2, bi3_some]
      exact s2
theorem sim_better {N : Nat} (hN : 1000 ≤ N) : S_better Inv N := by
  intro f t g u hI x1 x2 x3 x4
  obtain ⟨M, hM⟩ := (hI.thr 0).im
  obtain ⟨h0, h1, hw, hf, hg, ⟨S, w0, hn⟩, hk0, hk1⟩ := id hM
  have hb := hw.1
  have n8 : ∀ k, k < 9 → f 24 k = nI (S k) := fun k hk => (hn.2.2.2.1 k hk).1
  have n9 : ∀ k, k < 9 → st2 g 0 0 0 8 k = nI (S k) := fun k hk => by have := (hn.2.2.2.1 k hk).2; rwa [Nat.zero_add] at this
  obtain ⟨v, e1, e2, e3⟩ := asks_both hw hf hg x1 x2 x3 x4
  unfold q_X9_better q_X10_better
  simp only [sq]
  rw [e1, bi_some, e2]
  rcases e3 with rfl | ⟨rfl, w, a, b, w1, w3, ha, hb1, hab, rfl, rfl, rfl, h4⟩
  · rw [if_pos rfl, if_pos rfl]
    exact ⟨-1, _, _, rfl, rfl, hM.inv⟩
  · rw [if_neg z10, if_neg z10]
    have hf0 : TF (st2 (st2 f 40 4 (-1)) 40 5 (-9)) M := hf.go (fun d a b => by rw [st2_c (by omega), st2_c (by omega)])
    obtain ⟨f2, y5, y6, r1, r2, r3, r4⟩ := bett46 hw hf0 hg hn.1 (fun k hk => by rw [st2_c (by decide), st2_c (by decide)]; exact n8 k hk) n9 w1 w3 ha hb1 hab hN x4 (M 0 1) 0 N (st2 (st2 f 40 4 (-1)) 40 5 (-9)) (-9) (-9) (by omega) (by omega) (fun _ _ => rfl) (Or.inl ⟨by rw [st2_k (by decide), st2_e], st2_e, rfl, rfl, Or.inl rfl⟩)
    have r1 : lp_X0_findBestExchange_14 N (nI w) (nI a) (nI b) N 0 (st2 (st2 f 40 4 (-1)) 40 5 (-9)) = some f2 := r1
    have r2 : lp_X10_better_46 N (nI w) (nI a) (nI b) x4 N (-9) (-9) 0 (st2 g 0 0 0) = some (y5, y6, st2 g 0 0 0) := r2
    rw [r2, bi3_some, hf.1.2.1]
    have hI' : Inv f2 t (st2 g 0 0 0) u := (hM.scr (fun c hc => by rw [r3 c (by omega), st2_c (by omega), st2_c (by omega)]) (fun _ _ => rfl) (fun _ _ _ => rfl)).inv
    rcases r4 with ⟨a1, a2, a3, a4, a5⟩ | ⟨v, c, a1, a2, a3, a4, a5, a6, a7⟩
    · rw [if_neg (show ¬ (2 : Int32) ≤ nI (M 0 1) from nI_ge (b := 2) a5 (by decide)), a3, a4]
      refine ⟨-9, _, _, rfl, ?_, hM.inv⟩
      split <;> rfl
    · rw [if_pos (show (2 : Int32) ≤ nI (M 0 1) from nI_le (a := 2) a7 (by omega))]
      unfold q_X0_findBestExchange
      simp only [sq]
      rw [r1, bi_some, bi_some, a3, a4, a5, a6]
      rcases h4 with rfl | rfl
      · rw [if_pos rfl, if_pos rfl]
        exact ⟨nI c, _, _, rfl, rfl, hI'⟩
      · rw [if_neg z10, if_neg z10]
        exact ⟨nI v, _, _, rfl, rfl, hI'⟩
