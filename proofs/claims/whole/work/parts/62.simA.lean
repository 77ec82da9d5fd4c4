theorem gi9 {β : Type} (k : Option β) : gi 9 50 k = k := gi_lit k (by decide)
theorem z01 : ¬ (0 : Int32) = 1 := by decide
theorem z02 : ¬ (0 : Int32) = 2 := by decide
theorem z03 : ¬ (0 : Int32) = 3 := by decide
theorem z04 : ¬ (0 : Int32) = 4 := by decide
theorem z05 : ¬ (0 : Int32) = 5 := by decide
theorem z06 : ¬ (0 : Int32) = 6 := by decide
theorem z10 : ¬ (1 : Int32) = 0 := by decide
theorem z12 : ¬ (1 : Int32) = 2 := by decide
theorem z13 : ¬ (1 : Int32) = 3 := by decide
theorem z14 : ¬ (1 : Int32) = 4 := by decide
theorem z15 : ¬ (1 : Int32) = 5 := by decide
theorem z16 : ¬ (1 : Int32) = 6 := by decide
theorem z20 : ¬ (2 : Int32) = 0 := by decide
theorem z21 : ¬ (2 : Int32) = 1 := by decide
theorem z23 : ¬ (2 : Int32) = 3 := by decide
theorem z24 : ¬ (2 : Int32) = 4 := by decide
theorem z25 : ¬ (2 : Int32) = 5 := by decide
theorem z26 : ¬ (2 : Int32) = 6 := by decide
theorem z30 : ¬ (3 : Int32) = 0 := by decide
theorem z31 : ¬ (3 : Int32) = 1 := by decide
theorem z32 : ¬ (3 : Int32) = 2 := by decide
theorem z34 : ¬ (3 : Int32) = 4 := by decide
theorem z35 : ¬ (3 : Int32) = 5 := by decide
theorem z36 : ¬ (3 : Int32) = 6 := by decide
theorem z40 : ¬ (4 : Int32) = 0 := by decide
theorem z41 : ¬ (4 : Int32) = 1 := by decide
theorem z42 : ¬ (4 : Int32) = 2 := by decide
theorem z43 : ¬ (4 : Int32) = 3 := by decide
theorem z45 : ¬ (4 : Int32) = 5 := by decide
theorem z46 : ¬ (4 : Int32) = 6 := by decide
theorem z50 : ¬ (5 : Int32) = 0 := by decide
theorem z51 : ¬ (5 : Int32) = 1 := by decide
theorem z52 : ¬ (5 : Int32) = 2 := by decide
theorem z53 : ¬ (5 : Int32) = 3 := by decide
theorem z54 : ¬ (5 : Int32) = 4 := by decide
theorem z56 : ¬ (5 : Int32) = 6 := by decide
theorem z60 : ¬ (6 : Int32) = 0 := by decide
theorem z61 : ¬ (6 : Int32) = 1 := by decide
theorem z62 : ¬ (6 : Int32) = 2 := by decide
theorem z63 : ¬ (6 : Int32) = 3 := by decide
theorem z64 : ¬ (6 : Int32) = 4 := by decide
theorem z65 : ¬ (6 : Int32) = 5 := by decide
theorem TG.thr {g : mM} {M : tM} (h : TG g M) (v : Int32) : TG (st2 g 0 0 v) M := h.go (fun c h _ => st2_c (by omega)) (fun k h _ => st2_k (by omega))
theorem NS.thr {np : Nat} {f g : mM} {c B o : Nat} {S : Nat → Nat} {w : Nat} (h : NS np f g c (B + 1) o S w) (v : Int32) : NS np f (st2 g 0 0 v) c (B + 1) o S w := h.go rfl rfl rfl rfl (st2_c (by omega))
theorem wh2 (x : Int32) : x = 0 ∨ x = 1 ∨ (¬ (0 ≤ x ∧ x ≤ 1) ∧ ¬ x = 0 ∧ ¬ x = 1) := by
  by_cases h0 : x = 0
  · exact Or.inl h0
  · by_cases h1 : x = 1
    · exact Or.inr (Or.inl h1)
    · refine Or.inr (Or.inr ⟨?_, h0, h1⟩)
      rw [i_eq, i_0] at h0
      rw [i_eq, show (1 : Int32).toInt = 1 from rfl] at h1
      rw [i_le, i_le, i_0, show (1 : Int32).toInt = 1 from rfl]
      omega
theorem wh3 (x : Int32) : x = 0 ∨ x = 1 ∨ x = 2 ∨ (¬ (0 ≤ x ∧ x ≤ 2) ∧ ¬ x = 0 ∧ ¬ x = 1 ∧ ¬ x = 2) := by
  by_cases h0 : x = 0
  · exact Or.inl h0
  · by_cases h1 : x = 1
    · exact Or.inr (Or.inl h1)
    · by_cases h2 : x = 2
      · exact Or.inr (Or.inr (Or.inl h2))
      · refine Or.inr (Or.inr (Or.inr ⟨?_, h0, h1, h2⟩))
        rw [i_eq, i_0] at h0
        rw [i_eq, show (1 : Int32).toInt = 1 from rfl] at h1
        rw [i_eq, show (2 : Int32).toInt = 2 from rfl] at h2
        rw [i_le, i_le, i_0, show (2 : Int32).toInt = 2 from rfl]
        omega
theorem sim_plank (N : Nat) : S_plank Inv N := by
  intro f t g u hI x1 x2
  have hI2 := hI.thr 0
  obtain ⟨h0, h1, M, hw, hf, hg, ⟨S, w, hn⟩, hk0, hk1⟩ := id hI
  have hg2 := hg.thr 0
  have hn2 := hn.thr (B := 7) 0
  have hb := hw.1
  obtain ⟨v, e1, e2, e3⟩ := isPlankF hw hf hg2 x1
  unfold q_X9_plank q_X10_plank
  simp only [sq, e1, e2, bi_some]
  rcases e3 with rfl | ⟨rfl, k, hk, rfl⟩
  · exact ⟨-1, _, rfl, rfl, hI2⟩
  · rw [if_neg z10, if_neg z10]
    have a1 := hf.2.1 k hk
    have a2 := hg2.2.1 k hk
    have a3 := hn2.2.2.2.1 k (by omega)
    rcases wh3 x2 with rfl | rfl | rfl | ⟨c0, c1, c2, c3⟩
    · refine ⟨nI (M 1 k), _, ?_, ?_, hI2⟩
      · rw [if_pos rfl, gi_in _ (by omega) (by omega), cl_nI (by omega), a1.1]
      · rw [show q_X10_in 0 0 2 = some 1 from by decide, bi_some, if_neg z10, if_pos rfl, gi_in _ (by omega) (by omega), cl_nI (by omega), a2.1]
    · refine ⟨nI (M 2 k), _, ?_, ?_, hI2⟩
      · rw [if_neg z10, if_pos rfl, gi_in _ (by omega) (by omega), cl_nI (by omega), a1.2]
      · rw [show q_X10_in 1 0 2 = some 1 from by decide, bi_some, if_neg z10, if_neg z10, if_pos rfl, gi_in _ (by omega) (by omega), cl_nI (by omega), a2.2]
    · refine ⟨nI (S k), _, ?_, ?_, hI2⟩
      · rw [if_neg z20, if_neg z21, if_pos rfl, gi_in _ (by omega) (by omega), cl_nI (by omega)]
        exact congrArg some a3.1
      · rw [show q_X10_in 2 0 2 = some 1 from by decide, bi_some, if_neg z10, if_neg z20, if_neg z21, gi_in _ (by omega) (by omega), cl_nI (by omega), ← a3.2, Nat.zero_add]
    · refine ⟨-1, _, ?_, ?_, hI2⟩
      · rw [if_neg c1, if_neg c2, if_neg c3]
      · rw [in_eq, if_neg c0, bi_some, if_pos rfl]
theorem sim_person (N : Nat) : S_person Inv N := by
  intro f t g u hI x1 x2
  have hI2 := hI.thr 0
  obtain ⟨h0, h1, M, hw, hf, hg, hn, hk0, hk1⟩ := id hI
  have hg2 := hg.thr 0
  have hb := hw.1
  obtain ⟨v, e1, e2, e3⟩ := isPersonF hw hf hg2 x1
  unfold q_X9_person q_X10_person
  simp only [sq, e1, e2, bi_some]
  rcases e3 with rfl | ⟨rfl, k, hk, rfl⟩
  · exact ⟨-1, _, rfl, rfl, hI2⟩
  · rw [if_neg z10, if_neg z10]
    have a1 := hf.2.2.1 k hk
    have a2 := hg2.2.2.1 k hk
    rcases wh2 x2 with rfl | rfl | ⟨c0, c1, c2⟩
    · refine ⟨nI (M 4 k), _, ?_, ?_, hI2⟩
      · rw [if_pos rfl, gi_in _ (by omega) (by omega), cl_nI (by omega), a1.1]
      · rw [show q_X10_in 0 0 1 = some 1 from by decide, bi_some, if_neg z10, if_pos rfl, gi_in _ (by omega) (by omega), cl_nI (by omega), a2.1]
    · refine ⟨nI (M 5 k), _, ?_, ?_, hI2⟩
      · rw [if_neg z10, if_pos rfl, gi_in _ (by omega) (by omega), cl_nI (by omega), a1.2]
      · rw [show q_X10_in 1 0 1 = some 1 from by decide, bi_some, if_neg z10, if_neg z10, gi_in _ (by omega) (by omega), cl_nI (by omega), a2.2]
    · refine ⟨-1, _, ?_, ?_, hI2⟩
      · rw [if_neg c1, if_neg c2]
      · rw [in_eq, if_neg c0, bi_some, if_pos rfl]
theorem nI_3 (k : Nat) : 3 * nI k = nI (3 * k) := pk_mul 3 k
theorem sim_errand (N : Nat) : S_errand Inv N := by
  intro f t g u hI x1 x2
  have hI2 := hI.thr 0
  obtain ⟨h0, h1, M, hw, hf, hg, hn, hk0, hk1⟩ := id hI
  have hg2 := hg.thr 0
  have hb := hw.1
  obtain ⟨v, e1, e2, e3⟩ := idx_F x1 (n := M 0 3) (by omega)
  unfold q_X9_errand q_X10_errand q_X2_isErrand
  simp only [sq]
  rw [hf.1.2.2.2, hg2.1.2.2.2, e1, e2, bi_some, bi_some]
  rcases e3 with rfl | ⟨rfl, k, hk, rfl⟩
  · exact ⟨-1, _, rfl, rfl, hI2⟩
  · rw [if_neg z10, if_neg z10]
    have a1 := hf.2.2.2 k hk
    have a2 := hg2.2.2.2 k hk
    rcases wh3 x2 with rfl | rfl | rfl | ⟨c0, c1, c2, c3⟩
    · refine ⟨nI (M 6 k), _, ?_, ?_, hI2⟩
      · rw [if_pos rfl, gi_in _ (by omega) (by omega), cl_nI (by omega), a1.1]
      · rw [show q_X10_in 0 0 2 = some 1 from by decide, bi_some, if_neg z10, nI_3, show nI (3 * k) + 0 = nI (3 * k) from nI_add (3 * k) 0, gi_in _ (by omega) (by omega), cl_nI (by omega), a2.1]
    · refine ⟨nI (M 7 k), _, ?_, ?_, hI2⟩
      · rw [if_neg z10, if_pos rfl, gi_in _ (by omega) (by omega), cl_nI (by omega), a1.2.1]
      · rw [show q_X10_in 1 0 2 = some 1 from by decide, bi_some, if_neg z10, nI_3, show nI (3 * k) + 1 = nI (3 * k + 1) from nI_add (3 * k) 1, gi_in _ (by omega) (by omega), cl_nI (by omega), a2.2.1]
    · refine ⟨nI (M 8 k), _, ?_, ?_, hI2⟩
      · rw [if_neg z20, if_neg z21, if_pos rfl, gi_in _ (by omega) (by omega), cl_nI (by omega), a1.2.2]
      · rw [show q_X10_in 2 0 2 = some 1 from by decide, bi_some, if_neg z10, nI_3, show nI (3 * k) + 2 = nI (3 * k + 2) from nI_add (3 * k) 2, gi_in _ (by omega) (by omega), cl_nI (by omega), a2.2.2]
    · refine ⟨-1, _, ?_, ?_, hI2⟩
      · rw [if_neg c1, if_neg c2, if_neg c3]
      · rw [in_eq, if_neg c0, bi_some, if_pos rfl]
theorem sim_trace (N : Nat) : S_trace Inv N := by
  intro f t g u hI
  obtain ⟨h0, -⟩ := id hI
  subst h0
  exact ⟨t, _, rfl, rfl, hI.thr 0⟩
theorem sim_clear (N : Nat) : S_clear Inv N := by
  intro f t g u hI
  have hI2 := hI.thr 0
  obtain ⟨h0, ⟨L, hL, e1, e2, e3⟩, M, hw, hf, hg, hn, hk0, hk1⟩ := id hI2
  refine ⟨nI L, _, _, ?_, ?_, h0, ⟨0, by omega, st2_e, st2_e, fun j h => absurd h (by omega)⟩, M, hw, hf.go (fun c h _ => st2_c (by omega)), hg.go (fun c h _ => st2_c (by omega)) (fun k h _ => st2_k (by omega)), hn.go (by rw [st2_c (by decide)]) (st2_c (by decide)) (st2_c (by decide)) (st2_c (by decide)) (st2_c (by decide)), hk0.go (by rw [st2_c (by decide)]) (st2_c (by decide)) (st2_c (by decide)) (st2_c (by decide)) (st2_c (by decide)) (by rw [st2_c (by decide)]) (by rw [st2_c (by decide)]), hk1.go (by rw [st2_c (by decide)]) (st2_c (by decide)) (st2_c (by decide)) (st2_c (by decide)) (st2_c (by decide)) (by rw [st2_c (by decide)]) (by rw [st2_c (by decide)])⟩
  · unfold q_X9_clear
    simp only [sq]
    rw [e1]
    rfl
  · unfold q_X10_clear
    simp only [sq]
    rw [e2]
    rfl
theorem sim_went (N : Nat) : S_went Inv N := by
  intro f t g u hI x1 x2
  have hI2 := hI.thr 0
  obtain ⟨h0, h1, M, hw, hf, hg, ⟨S, w, hn⟩, hk0, hk1⟩ := id hI
  have hn2 := hn.thr (B := 7) 0
  obtain ⟨n1, n2, n3, n4, n5, n6, n7⟩ := hn2
  have n6 : st2 g 0 0 0 8 9 = nI w := n6
  unfold q_X9_went q_X10_went
  simp only [sq]
  by_cases hx : x1 < 0
  · rw [if_pos hx, if_pos hx]
    exact ⟨-1, _, rfl, rfl, hI2⟩
  · rw [if_neg hx, if_neg hx]
    rcases wh2 x2 with rfl | rfl | ⟨c0, c1, c2⟩
    · rw [show q_X9_isWithin 0 0 1 = some 1 from by decide, show q_X10_in 0 0 1 = some 1 from by decide, bi_some, bi_some, if_neg z10, if_neg z10, gi9 _, show Int32.toNatClampNeg 9 = 9 from by decide, n5, n6]
      rcases pk_ix x1 (n := w) (by omega) with h | h | ⟨k, hk, rfl⟩
      · exact absurd h hx
      · rw [if_neg (by rw [i_lt]; rw [i_le] at h; omega), if_pos h]
        exact ⟨-5, _, rfl, rfl, hI2⟩
      · rw [if_pos (nI_lt hk (by omega)), if_neg (nI_ge hk (by omega)), if_pos rfl, gi_in _ (by omega) (by omega), cl_nI (by omega)]
        have a := (n7 k hk).1
        refine ⟨f 25 k, _, rfl, ?_, hI2⟩
        rw [show (10 : Int32) + 2 * nI k + 0 = nI (10 + 2 * k) from by rw [show (2 : Int32) * nI k = nI (2 * k) from pk_mul 2 k, show (10 : Int32) + nI (2 * k) = nI (10 + 2 * k) from nI_add 10 (2 * k)]; exact nI_add _ 0, gi_in _ (by omega) (by omega), cl_nI (by omega)]
        rw [show (25 : Nat) = 23 + 2 from rfl, a, Nat.zero_add]
    · rw [show q_X9_isWithin 1 0 1 = some 1 from by decide, show q_X10_in 1 0 1 = some 1 from by decide, bi_some, bi_some, if_neg z10, if_neg z10, gi9 _, show Int32.toNatClampNeg 9 = 9 from by decide, n5, n6]
      rcases pk_ix x1 (n := w) (by omega) with h | h | ⟨k, hk, rfl⟩
      · exact absurd h hx
      · rw [if_neg (by rw [i_lt]; rw [i_le] at h; omega), if_pos h]
        exact ⟨-5, _, rfl, rfl, hI2⟩
      · rw [if_pos (nI_lt hk (by omega)), if_neg (nI_ge hk (by omega)), if_neg z10, gi_in _ (by omega) (by omega), cl_nI (by omega)]
        have a := (n7 k hk).2
        refine ⟨f 26 k, _, rfl, ?_, hI2⟩
        rw [show (10 : Int32) + 2 * nI k + 1 = nI (11 + 2 * k) from by rw [show (2 : Int32) * nI k = nI (2 * k) from pk_mul 2 k, show (10 : Int32) + nI (2 * k) = nI (10 + 2 * k) from nI_add 10 (2 * k), show nI (10 + 2 * k) + 1 = nI (10 + 2 * k + 1) from nI_add _ 1]; congr 1; omega, gi_in _ (by omega) (by omega), cl_nI (by omega)]
        rw [show (26 : Nat) = 23 + 3 from rfl, a, Nat.zero_add]
    · rw [within_eq, in_eq, bi_some, bi_some, if_neg c0, if_pos rfl, if_pos rfl]
      exact ⟨-1, _, rfl, rfl, hI2⟩
/-- new bearings on both sides -/
theorem Inv.bears {f : mM} {t : Int64} {g : mM} {u : Int64} {M : tM} {S : Nat → Nat} {w : Nat} {f' g' : mM} (hI : Inv f t g u) (hw : WF M) (hf : TF f M) (hg : TG g M) (hf1 : ∀ c, c ≠ 24 → f' c = f c) (hg1 : ∀ c, c ≠ 8 → g' c = g c) (hn : NS (M 0 1) f' g' 23 8 0 S w) (hk0 : IK (M 0 1) f g 0 28 0) (hk1 : IK (M 0 1) f g 1 32 50) : Inv f' t g' u := by
  obtain ⟨h0, h1, -⟩ := hI
  exact ⟨h0, h1.go (by rw [hf1 _ (by decide)]) (hf1 _ (by decide)) (by rw [hg1 _ (by decide)]) (hg1 _ (by decide)), M, hw, hf.go (fun c h _ => hf1 c (by omega)), hg.go (fun c h _ => hg1 c (by omega)) (fun k h _ => by rw [hg1 _ (by decide)]), ⟨S, w, hn⟩, hk0.go (by rw [hf1 _ (by decide)]) (hf1 _ (by decide)) (hf1 _ (by decide)) (hf1 _ (by decide)) (hg1 _ (by decide)) (by rw [hf1 _ (by decide)]) (by rw [hg1 _ (by decide)]), hk1.go (by rw [hf1 _ (by decide)]) (hf1 _ (by decide)) (hf1 _ (by decide)) (hf1 _ (by decide)) (hg1 _ (by decide)) (by rw [hf1 _ (by decide)]) (by rw [hg1 _ (by decide)])⟩
def upN (S : Nat → Nat) (k v : Nat) : Nat → Nat := fun j => if j = k then v else S j
theorem upN_e {S : Nat → Nat} {k v : Nat} : upN S k v k = v := by simp [upN]
theorem upN_n {S : Nat → Nat} {k v j : Nat} (h : j ≠ k) : upN S k v j = S j := by simp [upN, h]
/-- one plank bears anew -/
theorem NS.put {np : Nat} {f g : mM} {S : Nat → Nat} {w : Nat} (h : NS np f g 23 8 0 S w) {k v : Nat} (hk : k < np) (hp : np ≤ 9) (hv : v ≤ 9) : NS np (st2 f 24 k (nI v)) (st2 g 8 k (nI v)) 23 8 0 (upN S k v) w := by
  obtain ⟨n1, n2, n3, n4, n5, n6, n7⟩ := h
  refine ⟨fun j hj => ?_, fun j h1 h2 => ?_, n3, fun j hj => ?_, by rw [st2_c (by decide)]; exact n5, ?_, fun i hi => ?_⟩
  · by_cases e : j = k
    · subst e; rw [upN_e]; exact hv
    · rw [upN_n e]; exact n1 j hj
  · rw [upN_n (by omega)]; exact n2 j h1 h2
  · have := n4 j hj
    by_cases e : j = k
    · subst e
      rw [upN_e]
      refine ⟨st2_e, ?_⟩
      rw [Nat.zero_add]; exact st2_e
    · rw [upN_n e]
      refine ⟨(st2_k e).trans this.1, ?_⟩
      rw [Nat.zero_add] at this ⊢
      exact (st2_k e).trans this.2
  · exact (st2_k (by omega)).trans n6
  · have := n7 i hi
    refine ⟨?_, ?_⟩
    · rw [st2_c (by decide)]; rw [st2_k (by omega)]; exact this.1
    · rw [st2_c (by decide)]; rw [st2_k (by omega)]; exact this.2
theorem sim_cart (N : Nat) : S_cart Inv N := by
  intro f t g u hI x1
  have hI2 := hI.thr 0
  obtain ⟨h0, h1, M, hw, hf, hg, ⟨S, w, hn⟩, hk0, hk1⟩ := id hI2
  have hb := hw.1
  obtain ⟨v, e1, e2, e3⟩ := isPlankF hw hf hg x1
  unfold q_X9_cart q_X10_cart
  simp only [sq, e1, e2, bi_some]
  rcases e3 with rfl | ⟨rfl, k, hk, rfl⟩
  · exact ⟨-1, _, _, rfl, rfl, hI2⟩
  · rw [if_neg z10, if_neg z10, gi_in _ (by omega) (by omega), gi_in _ (by omega) (by omega), gi_in _ (by omega) (by omega), gi_in _ (by omega) (by omega), cl_nI (by omega)]
    have a := hn.2.2.2.1 k (by omega)
    rw [Nat.zero_add] at a
    refine ⟨nI (S k), _, _, ?_, ?_, hI2.bears hw hf hg (fun c h => st2_c h) (fun c h => st2_c h) (hn.put (v := 9) hk (by omega) (by omega)) hk0 hk1⟩
    · rw [show f 24 k = nI (S k) from a.1]; rfl
    · rw [show st2 g 0 0 0 8 k = nI (S k) from a.2]; rfl
theorem sim_exchange (N : Nat) : S_exchange Inv N := by
  intro f t g u hI x1 x2
  have hI2 := hI.thr 0
  obtain ⟨h0, h1, M, hw, hf, hg, ⟨S, w, hn⟩, hk0, hk1⟩ := id hI2
  have hb := hw.1
  obtain ⟨v, e1, e2, e3⟩ := isPlankF hw hf hg x1
  obtain ⟨v2, e4, e5, e6⟩ := isPlankF hw hf hg x2
  unfold q_X9_exchange q_X10_exchange
  simp only [sq, e1, e2, bi_some]
  rcases e3 with rfl | ⟨rfl, k, hk, rfl⟩
  · exact ⟨-1, _, _, rfl, rfl, hI2⟩
  rw [if_neg z10, if_neg z10, e4, e5, bi_some, bi_some]
  rcases e6 with rfl | ⟨rfl, l, hl, rfl⟩
  · exact ⟨-1, _, _, rfl, rfl, hI2⟩
  rw [if_neg z10, if_neg z10]
  by_cases he : nI k = nI l
  · rw [if_pos he, if_pos he]
    exact ⟨-1, _, _, rfl, rfl, hI2⟩
  rw [if_neg he, if_neg he]
  have hkl : l ≠ k := fun h => he (by rw [h])
  unfold q_X3_swap q_X10_changes
  simp only [sq]
  rw [gi_in _ (by omega) (by omega), gi_in _ (by omega) (by omega), gi_in _ (by omega) (by omega), gi_in _ (by omega) (by omega), gi_in _ (by omega) (by omega), gi_in _ (by omega) (by omega), gi_in _ (by omega) (by omega), gi_in _ (by omega) (by omega), cl_nI (by omega), cl_nI (by omega)]
  have a := hn.2.2.2.1 k (by omega)
  have b := hn.2.2.2.1 l (by omega)
  rw [Nat.zero_add] at a b
  rw [show f 24 k = nI (S k) from a.1, show f 24 l = nI (S l) from b.1, show st2 g 0 0 0 8 k = nI (S k) from a.2, show st2 g 0 0 0 8 l = nI (S l) from b.2]
  have n1 := hn.1
  exact ⟨1, _, _, rfl, rfl, hI2.bears hw hf hg (fun c h => by rw [st2_c h, st2_c h]) (fun c h => by rw [st2_c h, st2_c h]) ((hn.put (v := S l) hk (by omega) (n1 l (by omega))).put (v := S k) hl (by omega) (n1 k (by omega))) hk0 hk1⟩
