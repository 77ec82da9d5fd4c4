theorem ldI_s (M : tM) (S0 Ld : Nat → Nat) (e i k : Nat) : ldI M S0 Ld e (i + 1) k = Ld k + hK M e (qw M S0 e i) k := by
  unfold ldI
  rw [if_neg (by omega), Nat.add_sub_cancel]
theorem XL_nil {M : tM} {S0 Ld : Nat → Nat} {c e i : Nat} (h : ∀ j, i ≤ j → j < (WL M S0 e).length → bB M e (qw M S0 e j) (fun k => S0 k - Ld k) (M 0 1) = false) (v : Nat) : ¬ XL M S0 Ld c e i v := by
  intro ⟨j, h1, h2, h3, _⟩
  rw [h j h1 h2] at h3
  cases h3
theorem XL_cons {M : tM} {S0 Ld : Nat → Nat} {c e i i' : Nat} (hii : i ≤ i') (h2 : i' < (WL M S0 e).length) (h : ∀ j, i ≤ j → j < i' → bB M e (qw M S0 e j) (fun k => S0 k - Ld k) (M 0 1) = false) (h3 : bB M e (qw M S0 e i') (fun k => S0 k - Ld k) (M 0 1) = true) (v : Nat) : XL M S0 Ld c e i v ↔ RUNm M c (e + 1) (fun k => S0 k - Ld k - hK M e (qw M S0 e i') k) v ∨ XL M S0 Ld c e (i' + 1) v := by
  constructor
  · intro ⟨j, a1, a2, a3, a4⟩
    by_cases c : j = i'
    · subst c; exact Or.inl a4
    · by_cases c2 : j < i'
      · rw [h j a1 c2] at a3; cases a3
      · exact Or.inr ⟨j, by omega, a2, a3, a4⟩
  · intro hh
    rcases hh with hh | ⟨j, a1, a2, a3, a4⟩
    · exact ⟨i', hii, h2, h3, hh⟩
    · exact ⟨j, by omega, a2, a3, a4⟩
set_option maxHeartbeats 2000000 in
theorem levelG {M : tM} {S0 : Nat → Nat} (hw : WF M) (hS : ∀ k, k < 9 → S0 k ≤ 9) (hS0 : ∀ k, M 0 1 ≤ k → k < 9 → S0 k = 0) {N : Nat} (hN : 1000 ≤ N) : ∀ c e, e + c + 1 = M 0 3 → ∀ (Ld : Nat → Nat), (∀ k, k < 9 → Ld k ≤ S0 k) → ∀ t i (o : Option Nat) (g : mM), (WL M S0 e).length - i ≤ t → i ≤ (WL M S0 e).length → TG g M → (∀ e, e < M 0 3 → WD g M S0 e) → (∀ k, k < 9 → g 8 k = nI (S0 k)) → g 13 e = nI i - 1 → (∀ k, k < 9 → g 17 k = nI (ldI M S0 Ld e i k)) → (∀ v, o = some v → v ≤ sm S0 9) → ∃ s o' g', s ≤ 1 + t * (1 + KK c) ∧ (∀ n, lp_X10_leastTaken_78 N (n + s) (tI (sm S0 9) o) (nI e) g = lp_X10_leastTaken_78 N n (tI (sm S0 9) o') (nI e - 1) g') ∧ (∀ d, d ≠ 13 → d ≠ 17 → g' d = g d) ∧ (∀ k, k < 9 → g' 17 k = nI (Ld k)) ∧ (∀ j, j < e → g' 13 j = g 13 j) ∧ (∀ v, o' = some v → v ≤ sm S0 9) ∧ Mx o o' (XL M S0 Ld c e i) := by
  have hb := hw.1
  have h81 : sm S0 9 ≤ 81 := by have := sm_le hS 9 (by omega); omega
  intro c
  induction c with
  | zero =>
    intro e he Ld hL t
    induction t with
    | zero =>
      intro i o g ht hi hg hd h8 h13 h17 ho
      obtain ⟨g1, p1, p2, p3, p4, p5⟩ := lt_step hw hS hL (by omega) hi hg h8 (hd e (by omega)) h13 h17 hN (tI (sm S0 9) o)
      have hlen : (WL M S0 e).length - i = 0 := by omega
      refine ⟨1, o, st2 g1 13 e (-1), by omega, fun n => p4 (by rw [hlen]; show i = _; omega) n, fun d h1 h2 => (st2_c h1).trans (p1 d h1 h2), fun k hk => by rw [st2_c (by decide)]; exact p2 k hk, fun j hj => (st2_k (by omega)).trans (p3 j (by omega)), ho, Mx.nil (XL_nil (fun j h1 h2 => by omega))⟩
    | succ t iht =>
      intro i o g ht hi hg hd h8 h13 h17 ho
      obtain ⟨g1, p1, p2, p3, p4, p5⟩ := lt_step hw hS hL (by omega) hi hg h8 (hd e (by omega)) h13 h17 hN (tI (sm S0 9) o)
      rcases nbf_spec (fun i => bB M e (qw M S0 e i) (fun k => S0 k - Ld k) (M 0 1)) ((WL M S0 e).length - i) i with ⟨n1, n2⟩ | ⟨n1, n2, n3, n4⟩
      · refine ⟨1, o, st2 g1 13 e (-1), by omega, fun n => p4 (by omega) n, fun d h1 h2 => (st2_c h1).trans (p1 d h1 h2), fun k hk => by rw [st2_c (by decide)]; exact p2 k hk, fun j hj => (st2_k (by omega)).trans (p3 j (by omega)), ho, Mx.nil (XL_nil (fun j h1 h2 => n2 j h1 (by omega)))⟩
      · obtain ⟨i', hi'⟩ : ∃ i', nbf (fun i => bB M e (qw M S0 e i) (fun k => S0 k - Ld k) (M 0 1)) ((WL M S0 e).length - i) i = i' := ⟨_, rfl⟩
        rw [hi'] at n1 n2 n3 n4
        obtain ⟨q1, q2⟩ := p5 i' hi' (by omega)
        have hg1 : TG g1 M := hg.go (fun d h1 h2 => p1 d (by omega) (by omega)) (fun j _ _ => by rw [p1 0 (by decide) (by decide)])
        have hd1 : ∀ e, e < M 0 3 → WD g1 M S0 e := fun e he => (hd e he).go (p1 14 (by decide) (by decide)) (p1 15 (by decide) (by decide)) (p1 16 (by decide) (by decide))
        obtain ⟨g2, l1, l2, l3⟩ := loadsG (S0 := S0) (A := Ld) (Z := ldI M S0 Ld e (i' + 1)) hw hg1 1 (e := e) (i := i') p2 (by omega) (hd1 e (by omega)) (by omega) (fun k hk => by
          rw [ldI_s, Int32.one_mul]
          unfold hK
          split
          · exact nI_add _ _
          · exact nI_add _ 0) hN
        have hbk := (bB_iff (M 0 1)).mp n3
        have hle : ∀ k, k < 9 → hK M e (qw M S0 e i') k ≤ S0 k - Ld k := by
          intro k hk
          by_cases c1 : 1 ≤ hK M e (qw M S0 e i') k
          · by_cases c2 : k < M 0 1
            · exact (hbk k c2 (hK_gs c1)).2
            · rw [hK_np (qw_np (show i' < (WL M S0 e).length by omega)) (by omega)] at c1; omega
          · omega
        have hg2 : TG g2 M := hg1.go (fun d h1 h2 => l2 d (by omega)) (fun j _ _ => by rw [l2 0 (by decide)])
        have hld : ∀ k, ldI M S0 Ld e (i' + 1) k = Ld k + hK M e (qw M S0 e i') k := ldI_s M S0 Ld e i'
        have hle2 : ∀ k, k < 9 → ldI M S0 Ld e (i' + 1) k ≤ S0 k := fun k hk => by
          rw [hld]; have := hle k hk; have := hL k hk; omega
        have hsum := sm_sub (P := S0) (Q := ldI M S0 Ld e (i' + 1)) 9 hle2
        have hv : sm (fun k => S0 k - Ld k - hK M e (qw M S0 e i') k) 9 = sm (fun k => S0 k - ldI M S0 Ld e (i' + 1) k) 9 := sm_congr 9 (fun k hk => by rw [hld, Nat.sub_sub])
        have hsn : sm (ldI M S0 Ld e (i' + 1)) (M 0 1) = sm (ldI M S0 Ld e (i' + 1)) 9 := (sm9 (by omega) (fun k h1 h2 => by have := hle2 k h2; have := hS0 k h1 h2; omega)).symm
        obtain ⟨z1, -⟩ := q2 g2 l1 (by rw [l2 0 (by decide), p1 0 (by decide) (by decide)])
        have z2 := z1 (by omega) _ (loadedG hw hg2 l3 hN)
        rw [hsn] at z2
        obtain ⟨V, hV⟩ : ∃ V, sm (fun k => S0 k - Ld k - hK M e (qw M S0 e i') k) 9 = V := ⟨_, rfl⟩
        obtain ⟨o1, ho1, hmx, hst⟩ : ∃ o1 : Option Nat, (∀ v, o1 = some v → v ≤ sm S0 9) ∧ Mx o o1 (fun v => v = V) ∧ ∀ n, lp_X10_leastTaken_78 N (n + 1) (tI (sm S0 9) o) (nI e) g = lp_X10_leastTaken_78 N n (tI (sm S0 9) o1) (nI e) g2 := by
          have hVs : sm (ldI M S0 Ld e (i' + 1)) 9 = sm S0 9 - V := by omega
          rw [hVs] at z2
          cases o with
          | none =>
            refine ⟨some V, fun v hv => by have := Option.some.inj hv; omega, ⟨fun v hv => ⟨V, rfl, by omega⟩, fun v hv => (by cases hv), Or.inr ⟨V, rfl, rfl⟩⟩, fun n => ?_⟩
            rw [z2 n, if_pos (show tI (sm S0 9) none = -9 from rfl)]
            rfl
          | some w =>
            have hw1 := ho w rfl
            have hne : ¬ tI (sm S0 9) (some w) = -9 := by
              show ¬ nI (sm S0 9 - w) = -9
              rw [i_eq, nI_toInt (by omega), show (-9 : Int32).toInt = -9 from rfl]; omega
            by_cases cv : V ≤ w
            · refine ⟨some w, ho, ⟨fun v hv => ⟨w, rfl, by omega⟩, fun v hv => ⟨v, hv, Nat.le_refl _⟩, Or.inl rfl⟩, fun n => ?_⟩
              rw [z2 n, if_neg hne, if_pos (show tI (sm S0 9) (some w) ≤ nI (sm S0 9 - V) from nI_le (by omega) (by omega))]
            · refine ⟨some V, fun v hv => by have := Option.some.inj hv; omega, ⟨fun v hv => ⟨V, rfl, by omega⟩, fun v hv => ⟨V, rfl, by have := Option.some.inj hv; omega⟩, Or.inr ⟨V, rfl, rfl⟩⟩, fun n => ?_⟩
              rw [z2 n, if_neg hne, if_neg (show ¬ tI (sm S0 9) (some w) ≤ nI (sm S0 9 - V) from nI_ge (by omega) (by omega))]
              rfl
        obtain ⟨s, o2, g3, r1, r2, r3, r4, r5, r6, r7⟩ := iht (i' + 1) o1 g2 (by omega) (by omega) hg2 (fun e he => (hd1 e he).go (l2 14 (by decide)) (l2 15 (by decide)) (l2 16 (by decide))) (fun k hk => by rw [l2 8 (by decide), p1 8 (by decide) (by decide)]; exact h8 k hk) (by rw [l2 13 (by decide), q1, sub1]) l3 ho1
        refine ⟨s + 1, o2, g3, ?_, fun n => ?_, fun d h1 h2 => (r3 d h1 h2).trans ((l2 d h2).trans (p1 d h1 h2)), r4, fun j hj => (r5 j hj).trans (by rw [l2 13 (by decide)]; exact p3 j (by omega)), r6, hmx.comp r7 (fun v => ?_)⟩
        · have : (t + 1) * (1 + KK 0) = t * (1 + KK 0) + (1 + KK 0) := Nat.succ_mul _ _
          omega
        · rw [← Nat.add_assoc, hst, r2]
        · rw [XL_cons n1 (by omega) n4 n3]
          show v = sm _ 9 ∨ _ ↔ _
          rw [hV]
  | succ c ih =>
    intro e he Ld hL t
    induction t with
    | zero =>
      intro i o g ht hi hg hd h8 h13 h17 ho
      obtain ⟨g1, p1, p2, p3, p4, p5⟩ := lt_step hw hS hL (by omega) hi hg h8 (hd e (by omega)) h13 h17 hN (tI (sm S0 9) o)
      have hlen : (WL M S0 e).length - i = 0 := by omega
      refine ⟨1, o, st2 g1 13 e (-1), by omega, fun n => p4 (by rw [hlen]; show i = _; omega) n, fun d h1 h2 => (st2_c h1).trans (p1 d h1 h2), fun k hk => by rw [st2_c (by decide)]; exact p2 k hk, fun j hj => (st2_k (by omega)).trans (p3 j (by omega)), ho, Mx.nil (XL_nil (fun j h1 h2 => by omega))⟩
    | succ t iht =>
      intro i o g ht hi hg hd h8 h13 h17 ho
      obtain ⟨g1, p1, p2, p3, p4, p5⟩ := lt_step hw hS hL (by omega) hi hg h8 (hd e (by omega)) h13 h17 hN (tI (sm S0 9) o)
      rcases nbf_spec (fun i => bB M e (qw M S0 e i) (fun k => S0 k - Ld k) (M 0 1)) ((WL M S0 e).length - i) i with ⟨n1, n2⟩ | ⟨n1, n2, n3, n4⟩
      · refine ⟨1, o, st2 g1 13 e (-1), by omega, fun n => p4 (by omega) n, fun d h1 h2 => (st2_c h1).trans (p1 d h1 h2), fun k hk => by rw [st2_c (by decide)]; exact p2 k hk, fun j hj => (st2_k (by omega)).trans (p3 j (by omega)), ho, Mx.nil (XL_nil (fun j h1 h2 => n2 j h1 (by omega)))⟩
      · obtain ⟨i', hi'⟩ : ∃ i', nbf (fun i => bB M e (qw M S0 e i) (fun k => S0 k - Ld k) (M 0 1)) ((WL M S0 e).length - i) i = i' := ⟨_, rfl⟩
        rw [hi'] at n1 n2 n3 n4
        obtain ⟨q1, q2⟩ := p5 i' hi' (by omega)
        have hg1 : TG g1 M := hg.go (fun d h1 h2 => p1 d (by omega) (by omega)) (fun j _ _ => by rw [p1 0 (by decide) (by decide)])
        have hd1 : ∀ e, e < M 0 3 → WD g1 M S0 e := fun e he => (hd e he).go (p1 14 (by decide) (by decide)) (p1 15 (by decide) (by decide)) (p1 16 (by decide) (by decide))
        obtain ⟨g2, l1, l2, l3⟩ := loadsG (S0 := S0) (A := Ld) (Z := ldI M S0 Ld e (i' + 1)) hw hg1 1 (e := e) (i := i') p2 (by omega) (hd1 e (by omega)) (by omega) (fun k hk => by
          rw [ldI_s, Int32.one_mul]
          unfold hK
          split
          · exact nI_add _ _
          · exact nI_add _ 0) hN
        have hbk := (bB_iff (M 0 1)).mp n3
        have hle : ∀ k, k < 9 → hK M e (qw M S0 e i') k ≤ S0 k - Ld k := by
          intro k hk
          by_cases c1 : 1 ≤ hK M e (qw M S0 e i') k
          · by_cases c2 : k < M 0 1
            · exact (hbk k c2 (hK_gs c1)).2
            · rw [hK_np (qw_np (show i' < (WL M S0 e).length by omega)) (by omega)] at c1; omega
          · omega
        have hg2 : TG g2 M := hg1.go (fun d h1 h2 => l2 d (by omega)) (fun j _ _ => by rw [l2 0 (by decide)])
        have hld : ∀ k, ldI M S0 Ld e (i' + 1) k = Ld k + hK M e (qw M S0 e i') k := ldI_s M S0 Ld e i'
        have hle2 : ∀ k, k < 9 → ldI M S0 Ld e (i' + 1) k ≤ S0 k := fun k hk => by
          rw [hld]; have := hle k hk; have := hL k hk; omega
        obtain ⟨-, z1⟩ := q2 g2 l1 (by rw [l2 0 (by decide), p1 0 (by decide) (by decide)])
        have z2 := z1 (by omega)
        have h512 : (WL M S0 (e + 1)).length ≤ 512 := PA_512 hw
        have hd2 : ∀ e, e < M 0 3 → WD g2 M S0 e := fun e he => (hd1 e he).go (l2 14 (by decide)) (l2 15 (by decide)) (l2 16 (by decide))
        obtain ⟨s1, o1, g3, y1, y2, y3, y4, y5, y6, y7⟩ := ih (e + 1) (by omega) (ldI M S0 Ld e (i' + 1)) hle2 512 0 o (st2 g2 13 (e + 1) (-1)) (by omega) (Nat.zero_le _) (hg2.go (fun d h1 h2 => st2_c (by omega)) (fun j _ _ => by rw [st2_c (by decide)])) (fun e he => (hd2 e he).go (st2_c (by decide)) (st2_c (by decide)) (st2_c (by decide))) (fun k hk => by rw [st2_c (by decide), l2 8 (by decide), p1 8 (by decide) (by decide)]; exact h8 k hk) (by rw [st2_e]; decide) (fun k hk => by rw [st2_c (by decide)]; exact l3 k hk) ho
        have hg3 : TG g3 M := hg2.go (fun d h1 h2 => by rw [y3 d (by omega) (by omega), st2_c (by omega)]) (fun j _ _ => by rw [y3 0 (by decide) (by decide), st2_c (by decide)])
        obtain ⟨s, o2, g4, r1, r2, r3, r4, r5, r6, r7⟩ := iht (i' + 1) o1 g3 (by omega) (by omega) hg3 (fun e he => (hd2 e he).go (by rw [y3 14 (by decide) (by decide), st2_c (by decide)]) (by rw [y3 15 (by decide) (by decide), st2_c (by decide)]) (by rw [y3 16 (by decide) (by decide), st2_c (by decide)])) (fun k hk => by rw [y3 8 (by decide) (by decide), st2_c (by decide), l2 8 (by decide), p1 8 (by decide) (by decide)]; exact h8 k hk) (by rw [y5 e (by omega), st2_k (by omega), l2 13 (by decide), q1, sub1]) y4 y6
        refine ⟨s + (s1 + 1), o2, g4, ?_, fun n => ?_, fun d h1 h2 => (r3 d h1 h2).trans ((y3 d h1 h2).trans ((st2_c h1).trans ((l2 d h2).trans (p1 d h1 h2)))), r4, fun j hj => (r5 j hj).trans ((y5 j (by omega)).trans ((st2_k (by omega)).trans (by rw [l2 13 (by decide)]; exact p3 j (by omega)))), r6, y7.comp r7 (fun v => ?_)⟩
        · have h1 : (t + 1) * (1 + KK (c + 1)) = t * (1 + KK (c + 1)) + (1 + KK (c + 1)) := Nat.succ_mul _ _
          have h2 : KK (c + 1) = 1 + 512 * (1 + KK c) := rfl
          omega
        · rw [← Nat.add_assoc, ← Nat.add_assoc, z2, y2, sub1, r2]
        · rw [XL_cons n1 (by omega) n4 n3, ways_X hw (by omega)]
          have : (fun k => S0 k - ldI M S0 Ld e (i' + 1) k) = fun k => S0 k - Ld k - hK M e (qw M S0 e i') k := by
            funext k
            rw [hld, Nat.sub_sub]
          rw [this]
theorem KK_le : ∀ c, c ≤ 3 → KK c ≤ 134743041 := by decide
theorem zeroG {g : mM} {N : Nat} (hN : 1000 ≤ N) : ∃ g' : mM, lp_X10_leastTaken_2 N N 0 g = some g' ∧ (∀ c, c ≠ 17 → g' c = g c) ∧ ∀ k, k < 9 → g' 17 k = 0 := by
  obtain ⟨s', e, h1, h2⟩ := for_ex (σ := mM) (fun n k s => lp_X10_leastTaken_2 N n (nI k) s) 9 (fun k s => (∀ c, c ≠ 17 → s c = g c) ∧ ∀ j, j < k → s 17 j = 0) (fun s => some s)
    (fun n k s hk hI => by
      refine ⟨st2 s 17 k 0, ?_, fun c hc => (st2_c hc).trans (hI.1 c hc), fun j hj => ?_⟩
      · show lp_X10_leastTaken_2 N (n + 1) (nI k) s = _
        rw [lp_X10_leastTaken_2_s, if_neg (ge9 hk), gi_in _ hk (by decide)]
        simp only [sq]
        rw [cl_nI (by omega), nI_1]
      · by_cases c : j = k
        · rw [c, st2_e]
        · rw [st2_k c]; exact hI.2 j (by omega))
    (fun n s hI => by
      show lp_X10_leastTaken_2 N (n + 1) (nI 9) s = _
      rw [lp_X10_leastTaken_2_s]
      exact if_pos (Int32.le_refl _))
    9 0 g N rfl ⟨fun _ _ => rfl, fun j hj => absurd hj (by omega)⟩ (by omega)
  exact ⟨s', e, h1, h2⟩
theorem leastG {M : tM} {S0 : Nat → Nat} (hw : WF M) (hS : ∀ k, k < 9 → S0 k ≤ 9) (hS0 : ∀ k, M 0 1 ≤ k → k < 9 → S0 k = 0) {g : mM} (hg : TG g M) (h8 : ∀ k, k < 9 → g 8 k = nI (S0 k)) {N : Nat} (hN : 1000000000 ≤ N) : ∃ o g', q_X10_leastTaken N g = some (tI (sm S0 9) o, g') ∧ (∀ c, c ≤ 10 → g' c = g c) ∧ (∀ v, o = some v → v ≤ sm S0 9) ∧ Mx none o (RUNm M (M 0 3) 0 S0) := by
  have hb := hw.1
  obtain ⟨g1, a1, a2, a3⟩ := zeroG (g := g) (N := N) (by omega)
  have hg1 : TG g1 M := hg.go (fun d h1 h2 => a2 d (by omega)) (fun j _ _ => by rw [a2 0 (by decide)])
  obtain ⟨g2, b1, b2, b3⟩ := lists23 (S := S0) hw hS hg1 (fun k hk => by rw [a2 8 (by decide)]; exact h8 k hk) (N := N) (by omega)
  have hg2 : TG g2 M := hg1.go (fun d h1 h2 => b2 d (by omega) (by omega) (by omega) (by omega) (by omega)) (fun j _ _ => by rw [b2 0 (by decide) (by decide) (by decide) (by decide) (by decide)])
  unfold q_X10_leastTaken
  rw [a1, bi_some, b1, bi_some]
  simp only [sq]
  rw [hg2.1.2.2.2, gi_lit _ (by decide), show Int32.toNatClampNeg 0 = 0 from rfl]
  have fr : ∀ c, c ≤ 10 → g2 c = g c := fun c hc => by rw [b2 c (by omega) (by omega) (by omega) (by omega) (by omega), a2 c (by omega)]
  obtain ⟨n, rfl⟩ : ∃ n, N = n + 1 := ⟨N - 1, by omega⟩
  by_cases c : M 0 3 = 0
  · rw [c, if_pos (show nI 0 = 0 from rfl), if_pos (show nI 0 = 0 from rfl), lt78, if_pos (by decide), bi2_some]
    refine ⟨some (sm S0 9), st2 g2 13 0 (-1), ?_, fun c hc => (st2_c (by omega)).trans (fr c hc), fun v hv => by have := Option.some.inj hv; omega, fun v hv => ⟨sm S0 9, rfl, by have := RUNm_le _ _ _ _ hv; omega⟩, fun v hv => (by cases hv), Or.inr ⟨sm S0 9, rfl, rfl⟩⟩
    show _ = some (nI (sm S0 9 - sm S0 9), _)
    rw [Nat.sub_self]
    rfl
  · rw [if_neg (nI_ne0 (by omega) (by omega)), if_neg (nI_ne0 (by omega) (by omega))]
    have h512 : (WL M S0 0).length ≤ 512 := PA_512 hw
    obtain ⟨s, o, g3, r1, r2, r3, r4, r5, r6, r7⟩ := levelG hw hS hS0 (N := n + 1) (by omega) (M 0 3 - 1) 0 (by omega) (fun _ => 0) (fun k _ => Nat.zero_le _) 512 0 none (st2 g2 13 0 (-1)) (by omega) (Nat.zero_le _) (hg2.go (fun d h1 h2 => st2_c (by omega)) (fun j _ _ => by rw [st2_c (by decide)])) (fun e he => (b3 e he).go (st2_c (by decide)) (st2_c (by decide)) (st2_c (by decide))) (fun k hk => by rw [st2_c (by decide), b2 8 (by decide) (by decide) (by decide) (by decide) (by decide), a2 8 (by decide)]; exact h8 k hk) (by rw [st2_e]; decide) (fun k hk => by rw [st2_c (by decide), b2 17 (by decide) (by decide) (by decide) (by decide) (by decide)]; exact a3 k hk) (fun v hv => by cases hv)
    have hs : s ≤ 134743041 := by
      have := KK_le (M 0 3 - 1 + 1) (by omega)
      have h2 : KK (M 0 3 - 1 + 1) = 1 + 512 * (1 + KK (M 0 3 - 1)) := rfl
      omega
    have hr2 := r2 (n + 1 - s - 1 + 1)
    rw [show n + 1 - s - 1 + 1 + s = n + 1 by omega, lt78 (n + 1) (n + 1 - s - 1), if_pos (show nI 0 - 1 < 0 by decide)] at hr2
    have hr2 : lp_X10_leastTaken_78 (n + 1) (n + 1) (-9) 0 (st2 g2 13 0 (-1)) = some (tI (sm S0 9) o, g3) := hr2
    rw [hr2, bi2_some]
    refine ⟨o, g3, rfl, fun c hc => by rw [r3 c (by omega) (by omega), st2_c (by omega)]; exact fr c hc, r6, r7.congr (fun v => ?_)⟩
    rw [ways_X hw (by omega), show M 0 3 - 1 + 1 = M 0 3 by omega]
    exact Iff.rfl
theorem sim_all {N : Nat} (hN : 1000000000 ≤ N) : S_all Inv N := by
  intro f t g u hI x1
  obtain ⟨M, hM⟩ := (hI.thr 0).im
  obtain ⟨h0, h1, hw, hf, hg, ⟨S, w0, hn⟩, hk0, hk1⟩ := id hM
  have hb := hw.1
  have n8 : ∀ k, k < 9 → f 24 k = nI (S k) := fun k hk => (hn.2.2.2.1 k hk).1
  have n9 : ∀ k, k < 9 → st2 g 0 0 0 8 k = nI (S k) := fun k hk => by have := (hn.2.2.2.1 k hk).2; rwa [Nat.zero_add] at this
  have h81 : sm S 9 ≤ 81 := by have := sm_le hn.1 9 (by omega); omega
  unfold q_X9_all q_X10_all
  simp only [sq]
  rw [within_eq, in_eq, bi_some, bi_some]
  have main : ∃ o f' g', q_X5_mostLeft N f = some (cI o, f') ∧ q_X10_leastTaken N (st2 g 0 0 0) = some (tI (sm S 9) o, g') ∧ q_X10_bornNow N g' = some (nI (sm S 9)) ∧ (∀ v, o = some v → v ≤ sm S 9) ∧ Inv f' t g' u := by
    obtain ⟨f', o, a1, a2, a3, a4⟩ := mostLeftF hw (N := N) (by omega) hn.1 hf n8
    obtain ⟨o', g', b1, b2, b3, b4⟩ := leastG hw hn.1 hn.2.1 hg n9 hN
    have ho := a4.uniq b4
    subst ho
    refine ⟨o, f', g', a1, b1, ?_, b3, ?_⟩
    · rw [bornG (np := M 0 1) (S := S) (by rw [b2 0 (by decide)]; exact hg.1.2.1) (by omega) (fun k hk => by rw [b2 8 (by decide)]; exact n9 k hk) (by omega), sm9 (by omega) hn.2.1]
    · have hns : NS (M 0 1) f' g' 23 8 0 S w0 := by
        obtain ⟨c1, c2, c3, c4, c5, c6, c7⟩ := hn
        unfold NS
        rw [a2 23 (by decide) (by decide), a2 (23 + 2) (by decide) (by decide), a2 (23 + 3) (by decide) (by decide), b2 8 (by decide)]
        exact ⟨c1, c2, c3, fun k hk => ⟨a3 k hk, (c4 k hk).2⟩, c5, c6, c7⟩
      exact ⟨h0, h1.go (by rw [a2 1 (by decide) (by decide)]) (a2 _ (by decide) (by decide)) (by rw [b2 0 (by decide)]) (b2 _ (by decide)), M, hw, hf.go (fun c h1 h2 => a2 c (by omega) (by omega)), hg.go (fun c h1 h2 => b2 c (by omega)) (fun k _ _ => by rw [b2 0 (by decide)]), ⟨S, w0, hns⟩, hk0.go (by rw [a2 _ (by decide) (by decide)]) (a2 _ (by decide) (by decide)) (a2 _ (by decide) (by decide)) (a2 _ (by decide) (by decide)) (b2 _ (by decide)) (by rw [a2 _ (by decide) (by decide)]) (by rw [b2 _ (by decide)]), hk1.go (by rw [a2 _ (by decide) (by decide)]) (a2 _ (by decide) (by decide)) (a2 _ (by decide) (by decide)) (a2 _ (by decide) (by decide)) (b2 _ (by decide)) (by rw [a2 _ (by decide) (by decide)]) (by rw [b2 _ (by decide)])⟩
  obtain ⟨o, f', g', m1, m2, m3, m4, m5⟩ := main
  rcases wh2 x1 with rfl | rfl | ⟨c0, c1, c2⟩
  · rw [if_pos (show (0 : Int32) ≤ 0 ∧ (0 : Int32) ≤ 1 by decide), if_neg z10, if_neg z10, m1, m2, bi2_some, bi2_some, if_neg (show ¬ (0 : Int32) = 1 by decide), if_pos rfl]
    cases o with
    | none => exact ⟨0, f', g', by rw [if_pos (show cI none = -9 from rfl)], by rw [if_pos (show tI (sm S 9) none = -9 from rfl)], m5⟩
    | some v =>
      have := m4 v rfl
      exact ⟨1, f', g', by rw [if_neg (show ¬ cI (some v) = -9 by show ¬ nI v = -9; rw [i_eq, nI_toInt (by omega), show (-9 : Int32).toInt = -9 from rfl]; omega)], by rw [if_neg (show ¬ tI (sm S 9) (some v) = -9 by show ¬ nI (sm S 9 - v) = -9; rw [i_eq, nI_toInt (by omega), show (-9 : Int32).toInt = -9 from rfl]; omega)], m5⟩
  · rw [if_pos (show (0 : Int32) ≤ 1 ∧ (1 : Int32) ≤ 1 by decide), if_neg z10, if_neg z10, m1, m2, bi2_some, bi2_some, if_pos rfl, if_neg z10]
    cases o with
    | none => exact ⟨-9, f', g', rfl, by rw [if_pos (show tI (sm S 9) none = -9 from rfl)], m5⟩
    | some v =>
      have := m4 v rfl
      exact ⟨nI v, f', g', rfl, by rw [if_neg (show ¬ tI (sm S 9) (some v) = -9 by show ¬ nI (sm S 9 - v) = -9; rw [i_eq, nI_toInt (by omega), show (-9 : Int32).toInt = -9 from rfl]; omega), m3, bi_some, show tI (sm S 9) (some v) = nI (sm S 9 - v) from rfl, pk_sub (by omega), show sm S 9 - (sm S 9 - v) = v by omega], m5⟩
  · rw [if_neg c0, if_pos rfl, if_pos rfl]
    exact ⟨-1, _, _, rfl, rfl, hM.inv⟩
