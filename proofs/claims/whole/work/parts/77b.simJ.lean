theorem sim_way {N : Nat} (hN : 1000000 ≤ N) : S_way Inv N := by
  intro f t g u hI x1 x2 x3 x4
  obtain ⟨M, hM⟩ := (hI.thr 0).im
  obtain ⟨h0, h1, hw, hf, hg, -⟩ := id hM
  obtain ⟨v, e1, e2, e3⟩ := isPersonF hw hf hg x1
  obtain ⟨v2, e4, e5, e6⟩ := placesF hw hf hg x2 x3
  unfold q_X9_way q_X10_way
  simp only [sq]
  rw [e1, e2, bi_some, bi_some]
  rcases e3 with rfl | ⟨rfl, p, hp, rfl⟩
  · exact ⟨-1, _, _, rfl, rfl, hM.inv⟩
  rw [if_neg z10, if_neg z10, e4, e5, bi_some, bi_some]
  rcases e6 with rfl | ⟨rfl, a, b, ha, hb, hab, rfl, rfl⟩
  · exact ⟨-1, _, _, rfl, rfl, hM.inv⟩
  rw [if_neg z10, if_neg z10]
  by_cases c4 : -1 ≤ x4
  · rw [if_pos c4, if_pos c4]
    rcases go_both hM hp ha hb hab hN with ⟨f', g', r1, r2, r3⟩ | ⟨l, f1, g1, c, f2, g2, l1, l5, r1, r2, r3, r4, -⟩
    · rw [r1, r2, bi2_some, bi2_some, if_pos rfl, if_pos rfl]
      exact ⟨-9, _, _, rfl, rfl, r3.inv⟩
    · rw [r1, r2, bi2_some, bi2_some, if_neg (nI_ne0 (by omega) (by omega)), if_neg (show ¬ nI l = -9 by rw [i_eq, nI_toInt (by omega), show (-9 : Int32).toInt = -9 from rfl]; omega)]
      by_cases c1 : x4 = -1
      · subst c1
        rw [if_pos rfl, if_neg (by decide)]
        exact ⟨nI l, _, _, rfl, rfl, r4.inv⟩
      · rw [if_neg c1]
        rw [i_le, show (-1 : Int32).toInt = -1 from rfl] at c4
        rw [i_eq, show (-1 : Int32).toInt = -1 from rfl] at c1
        rw [if_pos (show (0 : Int32) ≤ x4 by rw [i_le, i_0]; omega)]
        rcases pk_ix x4 (n := l) (by omega) with h | h | ⟨k, hk, rfl⟩
        · rw [i_lt, i_0] at h; omega
        · rw [if_pos h, if_pos h]
          exact ⟨-5, _, _, rfl, rfl, r4.inv⟩
        · rw [if_neg (nI_ge hk (by omega)), if_neg (nI_ge hk (by omega)), gi_in _ (by omega) (by decide), cl_nI (by omega)]
          refine ⟨g1 13 k, _, _, ?_, rfl, r4.inv⟩
          unfold q_X8_plankOnWay
          rw [if_neg (nI_pos (by omega)), if_neg (show ¬ (5 : Int32) ≤ nI k from nI_ge (b := 5) (by omega) (by decide)), gi_in _ (by omega) (by decide), bi_some, cl_nI (by omega), r3 k hk]
  · rw [if_neg c4, if_neg c4]
    exact ⟨-1, _, _, rfl, rfl, hM.inv⟩
theorem sim_go {N : Nat} (hN : 1000000 ≤ N) : S_go Inv N := by
  intro f t g u hI x1 x2 x3
  obtain ⟨M, hM⟩ := (hI.thr 0).im
  obtain ⟨h0, h1, hw, hf, hg, -⟩ := id hM
  obtain ⟨v, e1, e2, e3⟩ := isPersonF hw hf hg x1
  obtain ⟨v2, e4, e5, e6⟩ := placesF hw hf hg x2 x3
  unfold q_X9_go q_X10_go
  simp only [sq]
  rw [e1, e2, bi_some, bi_some]
  rcases e3 with rfl | ⟨rfl, p, hp, rfl⟩
  · exact ⟨-1, _, _, rfl, rfl, hM.inv⟩
  rw [if_neg z10, if_neg z10, e4, e5, bi_some, bi_some]
  rcases e6 with rfl | ⟨rfl, a, b, ha, hb, hab, rfl, rfl⟩
  · exact ⟨-1, _, _, rfl, rfl, hM.inv⟩
  rw [if_neg z10, if_neg z10]
  rcases go_both hM hp ha hb hab hN with ⟨f', g', r1, r2, r3⟩ | ⟨l, f1, g1, c, f2, g2, l1, l5, r1, r2, r3, r4, r5, r6, r7⟩
  · rw [r1, r2, bi2_some, bi2_some, if_pos rfl, if_pos rfl]
    exact ⟨-2, _, _, rfl, rfl, r3.inv⟩
  · rw [r1, r2, bi2_some, bi2_some, if_neg (nI_ne0 (by omega) (by omega)), if_neg (show ¬ nI l = -9 by rw [i_eq, nI_toInt (by omega), show (-9 : Int32).toInt = -9 from rfl]; omega), r5, r6, bi2_some, bi2_some]
    exact ⟨c, _, _, rfl, rfl, r7.inv⟩
/-- one day -/
theorem day_both {M : tM} {t u : Int64} {N : Nat} (hN : 1000000 ≤ N) (x1 x3 : Int32) (base : Nat) : ∀ c e acc n (f g : mM), e + c = M 0 3 → c < n → IM M f t g u → ∃ acc' f' g', acc ≤ acc' ∧ acc' ≤ acc + c ∧ lp_X8_runErrands_4 N n (nI acc) (nI e) f = some (nI acc', f') ∧ lp_X10_days_29 N x1 x3 n (nI (base + acc)) (nI e) g = some (nI (base + acc'), g') ∧ IM M f' t g' u := by
  intro c
  induction c with
  | zero =>
    intro e acc n f g he hn hI
    obtain ⟨n, rfl⟩ : ∃ j, n = j + 1 := ⟨n - 1, by omega⟩
    obtain ⟨h0, h1, hw, hf, hg, -⟩ := id hI
    refine ⟨acc, f, g, Nat.le_refl _, Nat.le_refl _, ?_, ?_, hI⟩
    · rw [lp_X8_runErrands_4_s, hf.1.2.2.2, show e = M 0 3 by omega, if_pos (Int32.le_refl _)]
    · rw [lp_X10_days_29_s, hg.1.2.2.2, show e = M 0 3 by omega, if_pos (Int32.le_refl _)]
  | succ c ih =>
    intro e acc n f g he hn hI
    obtain ⟨n, rfl⟩ : ∃ j, n = j + 1 := ⟨n - 1, by omega⟩
    obtain ⟨h0, h1, hw, hf, hg, -⟩ := id hI
    have hb := hw.1
    have a1 := hf.2.2.2 e (by omega)
    have a2 := hg.2.2.2 e (by omega)
    have a3 := hw.2.2.2 e (by omega)
    have cF := lp_X8_runErrands_4_s N n (nI acc) (nI e) f
    have cG := lp_X10_days_29_s N x1 x3 n (nI (base + acc)) (nI e) g
    rw [hf.1.2.2.2, if_neg (nI_ge (by omega) (by omega)), gi_in _ (by omega) (by decide)] at cF
    simp only [sq] at cF cG
    rw [gi_in _ (by omega) (by decide), gi_in _ (by omega) (by decide), cl_nI (by omega), a1.1, a1.2.1, a1.2.2] at cF
    rw [hg.1.2.2.2, if_neg (nI_ge (by omega) (by omega)), nI_3, show nI (3 * e) + 1 = nI (3 * e + 1) from nI_1 _, show nI (3 * e) + 2 = nI (3 * e + 2) from nI_add _ 2, gi_in _ (by omega) (by decide), gi_in _ (by omega) (by decide), gi_in _ (by omega) (by decide), cl_nI (by omega), cl_nI (by omega), cl_nI (by omega), a2.1, a2.2.1, a2.2.2] at cG
    rcases go_both hI a3.1 a3.2.1 a3.2.2.1 a3.2.2.2 hN with ⟨f', g', r1, r2, r3⟩ | ⟨l, f1, g1, c', f2, g2, l1, l5, r1, r2, r3, r4, r5, r6, r7⟩
    · rw [r1, bi2_some, if_pos rfl, nI_1, nI_1] at cF
      rw [r2, bi2_some, if_pos rfl, nI_1, nI_1] at cG
      obtain ⟨acc', f2, g2, k1, k2, k3, k4, k5⟩ := ih (e + 1) (acc + 1) n f' g' (by omega) (by omega) r3
      exact ⟨acc', f2, g2, by omega, by omega, cF.trans k3, cG.trans k4, k5⟩
    · rw [r1, bi2_some, if_neg (nI_ne0 (by omega) (by omega)), r5, bi2_some, nI_1] at cF
      have b2 := r4.2.2.2.2.1.2.2.2 e (by omega)
      rw [r2, bi2_some, if_neg (show ¬ nI l = -9 by rw [i_eq, nI_toInt (by omega), show (-9 : Int32).toInt = -9 from rfl]; omega), gi_in _ (by omega) (by decide), b2.1, r6, bi2_some, nI_1] at cG
      obtain ⟨acc', f3, g3, k1, k2, k3, k4, k5⟩ := ih (e + 1) acc n f2 g2 (by omega) (by omega) r7
      exact ⟨acc', f3, g3, by omega, by omega, cF.trans k3, cG.trans k4, k5⟩
theorem days_both {M : tM} {t u : Int64} {N : Nat} (hN : 1000000 ≤ N) {m : Nat} (hm : m ≤ 9) : ∀ c e acc n (f g : mM), e + c = m → c < n → IM M f t g u → ∃ r f' g', lp_X9_days_16 N (nI m) n (nI acc) (nI e) f = some (r, f') ∧ lp_X10_days_21 N (nI m) n (nI acc) (nI e) g = some (r, g') ∧ IM M f' t g' u := by
  intro c
  induction c with
  | zero =>
    intro e acc n f g he hn hI
    obtain ⟨n, rfl⟩ : ∃ j, n = j + 1 := ⟨n - 1, by omega⟩
    refine ⟨nI acc, f, g, ?_, ?_, hI⟩
    · rw [lp_X9_days_16_s, show e = m by omega, if_pos (Int32.le_refl _)]
    · rw [lp_X10_days_21_s, show e = m by omega, if_pos (Int32.le_refl _)]
  | succ c ih =>
    intro e acc n f g he hn hI
    obtain ⟨n, rfl⟩ : ∃ j, n = j + 1 := ⟨n - 1, by omega⟩
    have hb := hI.2.2.1.1
    obtain ⟨a, f1, g1, k1, k2, k3, k4, k5⟩ := day_both hN (nI m) (nI e) acc (M 0 3) 0 0 N f g (by omega) (by omega) hI
    have k3 : lp_X8_runErrands_4 N N 0 0 f = _ := k3
    have k4 : lp_X10_days_29 N (nI m) (nI e) N (nI acc) 0 g = _ := k4
    obtain ⟨r, f2, g2, d1, d2, d3⟩ := ih (e + 1) (acc + a) n f1 g1 (by omega) (by omega) k5
    refine ⟨r, f2, g2, ?_, ?_, d3⟩
    · rw [lp_X9_days_16_s, if_neg (nI_ge (by omega) (by omega))]
      unfold q_X8_runErrands
      rw [k3, bi2_some, bi2_some]
      simp only [sq]
      rw [nI_add, nI_1]
      exact d1
    · rw [lp_X10_days_21_s, if_neg (nI_ge (by omega) (by omega)), k4, bi2_some]
      simp only [sq]
      rw [nI_1]
      exact d2
theorem in_nat {x : Int32} {a b : Nat} (hb : b < 2 ^ 30) (ha : a ≤ b) (h : nI a ≤ x ∧ x ≤ nI b) : ∃ m, a ≤ m ∧ m ≤ b ∧ x = nI m := by
  obtain ⟨h1, h2⟩ := h
  rcases pk_ix x (n := b + 1) (by omega) with h | h | ⟨k, hk, rfl⟩
  · rw [i_le, nI_toInt (by omega)] at h1
    rw [i_lt, i_0] at h
    omega
  · rw [i_le, nI_toInt (by omega)] at h2 h
    omega
  · rw [nI_le9 (by omega) (by omega)] at h1
    exact ⟨k, h1, by omega, rfl⟩
theorem sim_days {N : Nat} (hN : 1000000 ≤ N) : S_days Inv N := by
  intro f t g u hI x1
  obtain ⟨M, hM⟩ := (hI.thr 0).im
  unfold q_X9_days q_X10_days
  simp only [sq]
  rw [within_eq, in_eq, bi_some, bi_some]
  by_cases c : (1 : Int32) ≤ x1 ∧ x1 ≤ 9
  · obtain ⟨m, m1, m9, rfl⟩ := in_nat (a := 1) (b := 9) (by omega) (by omega) c
    rw [if_pos c, if_neg z10, if_neg z10]
    obtain ⟨r, f', g', d1, d2, d3⟩ := days_both hN m9 m 0 0 N f _ (by omega) (by omega) hM
    rw [show lp_X9_days_16 N (nI m) N 0 0 f = _ from d1, bi2_some, show lp_X10_days_21 N (nI m) N 0 0 (st2 g 0 0 0) = _ from d2, bi2_some]
    exact ⟨r, _, _, rfl, rfl, d3.inv⟩
  · rw [if_neg c, if_pos rfl, if_pos rfl]
    exact ⟨-1, _, _, rfl, rfl, hM.inv⟩
