/-! one steps on a plank -/
theorem canTakeF {f : mM} {S : Nat → Nat} {k v : Nat} (hk : k < 9) (hb : S k ≤ 9) (h : f 24 k = nI (S k)) (hv : v ≤ 9) : q_X3_canTake (nI k) (nI v) f = some (if 1 ≤ S k ∧ v ≤ S k then 1 else 0) := by
  unfold q_X3_canTake
  rw [gi_in _ hk (by decide), gi_in _ hk (by decide), cl_nI (by omega), h, rz0, rz1]
  by_cases c : 1 ≤ S k
  · rw [if_neg (nI_nle (by omega) (by omega))]
    by_cases c2 : v ≤ S k
    · rw [if_neg (nI_nlt c2 (by omega)), if_pos ⟨c, c2⟩]
    · rw [if_pos (nI_lt (by omega) (by omega)), if_neg (fun h => c2 h.2)]
  · rw [show S k = 0 by omega, if_pos (by decide), if_neg (by omega)]
theorem NS.went {np : Nat} {f g : mM} {S : Nat → Nat} {w : Nat} (h : NS np f g 23 8 0 S w) (hw : w < 20) (a b : Int32) : NS np (st2 (st2 (st2 f 25 w a) 26 w b) 23 3 (nI (w + 1))) (st2 (st2 (st2 g 8 (10 + 2 * w) a) 8 (11 + 2 * w) b) 8 9 (nI (w + 1))) 23 8 0 S (w + 1) := by
  obtain ⟨n1, n2, n3, n4, n5, n6, n7⟩ := h
  refine ⟨n1, n2, by omega, fun k hk => ?_, st2_e, st2_e, fun i hi => ?_⟩
  · have := n4 k hk
    rw [Nat.zero_add] at this ⊢
    refine ⟨?_, ?_⟩
    · rw [st2_c (by decide), st2_c (by decide), st2_c (by decide)]; exact this.1
    · rw [st2_k (by omega), st2_k (by omega), st2_k (by omega)]; exact this.2
  · show st2 (st2 (st2 f 25 w a) 26 w b) 23 3 (nI (w + 1)) 25 i = _ ∧ st2 (st2 (st2 f 25 w a) 26 w b) 23 3 (nI (w + 1)) 26 i = _
    have l1 : st2 (st2 (st2 f 25 w a) 26 w b) 23 3 (nI (w + 1)) 25 i = if i = w then a else f 25 i := by simp [st2_at]
    have l2 : st2 (st2 (st2 f 25 w a) 26 w b) 23 3 (nI (w + 1)) 26 i = if i = w then b else f 26 i := by simp [st2_at]
    have l3 : st2 (st2 (st2 g 8 (10 + 2 * w) a) 8 (11 + 2 * w) b) 8 9 (nI (w + 1)) 8 (0 + 10 + 2 * i) = if i = w then a else g 8 (0 + 10 + 2 * i) := by
      rw [st2_k (by omega), st2_k (by omega), st2_at]
      by_cases e : i = w
      · rw [if_pos (show 8 = 8 ∧ 0 + 10 + 2 * i = 10 + 2 * w by omega), if_pos e]
      · rw [if_neg (show ¬ (8 = 8 ∧ 0 + 10 + 2 * i = 10 + 2 * w) by omega), if_neg e]
    have l4 : st2 (st2 (st2 g 8 (10 + 2 * w) a) 8 (11 + 2 * w) b) 8 9 (nI (w + 1)) 8 (0 + 11 + 2 * i) = if i = w then b else g 8 (0 + 11 + 2 * i) := by
      rw [st2_k (by omega), st2_at]
      by_cases e : i = w
      · rw [if_pos (show 8 = 8 ∧ 0 + 11 + 2 * i = 11 + 2 * w by omega), if_pos e]
      · rw [if_neg (show ¬ (8 = 8 ∧ 0 + 11 + 2 * i = 11 + 2 * w) by omega), if_neg e, st2_k (by omega)]
    rw [l1, l2, l3, l4]
    by_cases e : i = w
    · rw [if_pos e, if_pos e, if_pos e, if_pos e]
      exact ⟨rfl, rfl⟩
    · rw [if_neg e, if_neg e, if_neg e, if_neg e]
      exact n7 i (by omega)
theorem take_both {np : Nat} {f g : mM} {S : Nat → Nat} {w : Nat} (hn : NS np f g 23 8 0 S w) {k v : Nat} (hk : k < np) (hp : np ≤ 9) (hv : v ≤ S k) (h0 : 1 ≤ S k) (x : Int32) : ∃ (b : Int32) (f' g' : mM) (w' : Nat), q_X3_take (nI k) (nI v) x f = some (b, f') ∧ q_X10_treads x (nI k) (nI v) g = some (b, g') ∧ NS np f' g' 23 8 0 (upN S k (S k - v)) w' ∧ (∀ c, c ≠ 23 → c ≠ 24 → c ≠ 25 → c ≠ 26 → f' c = f c) ∧ (∀ c, c ≠ 8 → g' c = g c) ∧ (b = 0 ∨ b = 1) := by
  obtain ⟨n1, n2, n3, n4, n5, n6, n7⟩ := id hn
  have n6 : g 8 9 = nI w := n6
  have a := n4 k (by omega)
  have b9 := n1 k (by omega)
  rw [Nat.zero_add] at a
  have a1 : f 24 k = nI (S k) := a.1
  have hp1 := hn.put (v := S k - v) hk hp (by omega)
  unfold q_X3_take q_X10_treads
  simp only [sq]
  rw [gi_in _ (by omega) (by decide), gi_in _ (by omega) (by decide), gi_in _ (by omega) (by decide), gi_in _ (by omega) (by decide), gi_in _ (by omega) (by decide), gi_in _ (by omega) (by decide), cl_nI (by omega), a1, a.2, pk_sub hv, st2_e, st2_e]
  simp only [rz0, rz1]
  by_cases c : S k - v = 0
  · rw [c] at hp1
    rw [c, if_pos (show nI 0 ≤ 0 by decide), if_neg (nI_ne0 (by omega) (by omega)), if_pos (show nI 0 ≤ 0 by decide), gi9, show Int32.toNatClampNeg 9 = 9 from by decide, st2_c (f := f) (by decide), n5, st2_k (f := g) (by omega), n6]
    by_cases cw : w = 20
    · rw [cw, if_pos (show (20 : Int32) ≤ nI 20 by decide), if_pos (show (20 : Int32) ≤ nI 20 by decide)]
      exact ⟨1, _, _, w, rfl, rfl, hp1, fun d _ h _ _ => st2_c h, fun d h => st2_c h, Or.inr rfl⟩
    · have hw20 : w < 20 := by omega
      have hw2 := hp1.went hw20 (nI k) x
      rw [if_neg (show ¬ (20 : Int32) ≤ nI w from nI_ge (b := 20) hw20 (by decide)), if_neg (show ¬ (20 : Int32) ≤ nI w from nI_ge (b := 20) hw20 (by decide)), gi9]
      simp only [cl_nI (show w < 2 ^ 31 by omega)]
      rw [show (2 : Int32) * nI w = nI (2 * w) from pk_mul 2 w, show (10 : Int32) + nI (2 * w) = nI (10 + 2 * w) from nI_add 10 (2 * w), gi_in _ (by omega) (by decide), gi_in _ (by omega) (by decide), cl_nI (i := 10 + 2 * w) (by omega)]
      have q1 : st2 (st2 f 24 k (nI 0)) 25 w (nI k) 23 3 = nI w := by rw [st2_c (by decide), st2_c (by decide), n5]
      have q2 : st2 (st2 g 8 k (nI 0)) 8 (10 + 2 * w) (nI k) 8 9 = nI w := by rw [st2_k (by omega), st2_k (by omega), n6]
      rw [q1, q2, gi_in _ (by omega) (by decide), gi9, cl_nI (by omega), show (2 : Int32) * nI w = nI (2 * w) from pk_mul 2 w, show (10 : Int32) + nI (2 * w) = nI (10 + 2 * w) from nI_add 10 (2 * w), show nI (10 + 2 * w) + 1 = nI (11 + 2 * w) from (nI_add (10 + 2 * w) 1).trans (by congr 1; omega), gi_in _ (by omega) (by decide), cl_nI (i := 11 + 2 * w) (by omega), gi9, gi9]
      have q3 : st2 (st2 (st2 f 24 k (nI 0)) 25 w (nI k)) 26 w x 23 3 = nI w := by rw [st2_c (by decide), q1]
      have q4 : st2 (st2 (st2 g 8 k (nI 0)) 8 (10 + 2 * w) (nI k)) 8 (11 + 2 * w) x 8 9 = nI w := by rw [st2_k (by omega), q2]
      rw [q3, q4, nI_1]
      exact ⟨1, _, _, w + 1, rfl, rfl, hw2, fun d h1 h2 h3 h4 => by rw [st2_c h1, st2_c h4, st2_c h3, st2_c h2], fun d h => by rw [st2_c h, st2_c h, st2_c h, st2_c h], Or.inr rfl⟩
  · rw [if_neg (nI_nle (by omega) (by omega)), if_neg (nI_nle (by omega) (by omega))]
    refine ⟨0, _, _, w, rfl, ?_, hp1, fun d _ h _ _ => st2_c h, fun d h => st2_c h, Or.inl rfl⟩
    split <;> rfl
/-- the same, of all that belongs together -/
theorem Inv.now {f : mM} {t : Int64} {g : mM} {u : Int64} {M : tM} {S : Nat → Nat} {w : Nat} {f' g' : mM} (hI : Inv f t g u) (hw : WF M) (hf : TF f M) (hg : TG g M) (hf1 : ∀ c, c ≠ 23 → c ≠ 24 → c ≠ 25 → c ≠ 26 → f' c = f c) (hg1 : ∀ c, c ≠ 8 → g' c = g c) (hn : NS (M 0 1) f' g' 23 8 0 S w) (hk0 : IK (M 0 1) f g 0 28 0) (hk1 : IK (M 0 1) f g 1 32 50) : Inv f' t g' u := by
  obtain ⟨h0, h1, -⟩ := hI
  exact ⟨h0, h1.go (by rw [hf1 _ (by decide) (by decide) (by decide) (by decide)]) (hf1 _ (by decide) (by decide) (by decide) (by decide)) (by rw [hg1 _ (by decide)]) (hg1 _ (by decide)), M, hw, hf.go (fun c h _ => hf1 c (by omega) (by omega) (by omega) (by omega)), hg.go (fun c h _ => hg1 c (by omega)) (fun k h _ => by rw [hg1 _ (by decide)]), ⟨S, w, hn⟩, hk0.go (by rw [hf1 _ (by decide) (by decide) (by decide) (by decide)]) (hf1 _ (by decide) (by decide) (by decide) (by decide)) (hf1 _ (by decide) (by decide) (by decide) (by decide)) (hf1 _ (by decide) (by decide) (by decide) (by decide)) (hg1 _ (by decide)) (by rw [hf1 _ (by decide) (by decide) (by decide) (by decide)]) (by rw [hg1 _ (by decide)]), hk1.go (by rw [hf1 _ (by decide) (by decide) (by decide) (by decide)]) (hf1 _ (by decide) (by decide) (by decide) (by decide)) (hf1 _ (by decide) (by decide) (by decide) (by decide)) (hf1 _ (by decide) (by decide) (by decide) (by decide)) (hg1 _ (by decide)) (by rw [hf1 _ (by decide) (by decide) (by decide) (by decide)]) (by rw [hg1 _ (by decide)])⟩
theorem sim_steps (N : Nat) : S_steps Inv N := by
  intro f t g u hI x1 x2
  have hI2 := hI.thr 0
  obtain ⟨h0, h1, M, hw, hf, hg, ⟨S, w, hn⟩, hk0, hk1⟩ := id hI2
  have hb := hw.1
  obtain ⟨v, e1, e2, e3⟩ := isPersonF hw hf hg x1
  obtain ⟨v2, e4, e5, e6⟩ := isPlankF hw hf hg x2
  unfold q_X9_steps q_X10_steps
  simp only [sq, e1, e2, bi_some]
  rcases e3 with rfl | ⟨rfl, p, hp, rfl⟩
  · exact ⟨-1, _, _, rfl, rfl, hI2⟩
  rw [if_neg z10, if_neg z10, e4, e5, bi_some, bi_some]
  rcases e6 with rfl | ⟨rfl, k, hk, rfl⟩
  · exact ⟨-1, _, _, rfl, rfl, hI2⟩
  obtain ⟨n1, n2, n3, n4, n5, n6, n7⟩ := id hn
  have a := n4 k (by omega)
  have b9 := n1 k (by omega)
  rw [Nat.zero_add] at a
  have a1 : f 24 k = nI (S k) := a.1
  have w1 := hf.2.2.1 p hp
  have w2 := hg.2.2.1 p hp
  have w3 := hw.2.2.1 p hp
  rw [if_neg z10, if_neg z10, gi_in _ (by omega) (by decide), gi_in _ (by omega) (by decide), gi_in _ (by omega) (by decide), gi_in _ (by omega) (by decide), cl_nI (by omega), cl_nI (by omega), w1.1, w2.1, a.2, canTakeF (by omega) b9 a1 (by omega), bi_some]
  by_cases c : M 4 p ≤ S k
  · rw [if_pos (show 1 ≤ S k ∧ M 4 p ≤ S k from ⟨by omega, c⟩), if_neg z10, if_pos (nI_le c (by omega))]
    obtain ⟨b, f', g', w', q1, q2, q3, q4, q5, q6⟩ := take_both hn hk (by omega) c (by omega) (nI p)
    rw [q1, q2, bi2_some, bi2_some, gi_in _ (by omega) (by decide), gi_in _ (by omega) (by decide)]
    have r := q3.2.2.2.1 k (by omega)
    rw [Nat.zero_add] at r
    rw [show f' 24 k = _ from r.1, show g' 8 k = _ from r.2]
    exact ⟨_, _, _, rfl, rfl, hI2.now hw hf hg q4 q5 q3 hk0 hk1⟩
  · rw [if_neg (show ¬ (1 ≤ S k ∧ M 4 p ≤ S k) from fun h => c h.2), if_pos rfl, if_neg (nI_ge (by omega) (by omega))]
    exact ⟨-2, _, _, rfl, rfl, hI2⟩
