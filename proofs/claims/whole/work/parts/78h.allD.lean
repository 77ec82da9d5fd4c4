def qw (M : tM) (S0 : Nat → Nat) (e i : Nat) : List Nat := (WL M S0 e).getD i []
theorem qw_mem {M : tM} {S0 : Nat → Nat} {e i : Nat} (h : i < (WL M S0 e).length) : qw M S0 e i ∈ WL M S0 e := by
  unfold qw
  rw [List.getD_eq_getElem?_getD, List.getElem?_eq_getElem h]
  exact List.getElem_mem h
theorem qw_np {M : tM} {S0 : Nat → Nat} {e i : Nat} (h : i < (WL M S0 e).length) : ∀ k, k ∈ qw M S0 e i → k < M 0 1 := OKw_np _ _ _ _ (PA_ok _ _ _ _ _ (qw_mem h))
theorem gs_lt {M : tM} (hw : WF M) {q : List Nat} (h : ∀ k, k ∈ q → k < M 0 1) : gsN q q.length < 512 := by
  have : gsN q q.length < 2 ^ 9 := bits_lt (fun z hz => by
    obtain ⟨j, e1, e2⟩ := (gsN_iff q q.length z).mp hz
    have := h _ (getD_mem e1)
    have := hw.1
    omega)
  omega
theorem hs_lt {M : tM} (hw : WF M) {p : Nat} {q : List Nat} (h : ∀ k, k ∈ q → k < M 0 1) : hsN M p q q.length < 512 := by
  have : hsN M p q q.length < 2 ^ 9 := bits_lt (fun z hz => by
    obtain ⟨j, e1, e2, -⟩ := (hsN_iff q q.length z).mp hz
    have := h _ (getD_mem e1)
    have := hw.1
    omega)
  omega
theorem hK_np {M : tM} {e : Nat} {q : List Nat} (h : ∀ k, k ∈ q → k < M 0 1) {k : Nat} (hk : M 0 1 ≤ k) : hK M e q k = 0 := by
  unfold hK
  by_cases c : (hsN M (M 6 e) q q.length).testBit k = true
  · obtain ⟨j, e1, e2, -⟩ := (hsN_iff q q.length k).mp c
    have := h _ (getD_mem e1)
    omega
  · rw [if_neg c]
theorem i0m (k : Nat) : ¬ nI k + 1 = 0 ∨ True := Or.inr trivial
theorem isBorneG {g : mM} {M : tM} {S0 Ld : Nat → Nat} (hw : WF M) (hg : TG g M) (hS : ∀ k, k < 9 → S0 k ≤ 9) (h8 : ∀ k, k < 9 → g 8 k = nI (S0 k)) (h17 : ∀ k, k < 9 → g 17 k = nI (Ld k)) (hL : ∀ k, k < 9 → Ld k ≤ S0 k) {e i : Nat} (he : e < M 0 3) (hd : WD g M S0 e) (hi : i < (WL M S0 e).length) {N : Nat} (hN : 1000 ≤ N) : q_X10_isBorne N (nI e) (nI i) g = some (if bB M e (qw M S0 e i) (fun k => S0 k - Ld k) (M 0 1) then 1 else 0) := by
  have hb := hw.1
  have a3 := hw.2.2.2 e he
  have b3 := hg.2.2.2 e he
  have w1 := hg.2.2.1 (M 6 e) a3.1
  have w3 := hw.2.2.1 (M 6 e) a3.1
  have h512 : (WL M S0 e).length ≤ 512 := PA_512 hw
  have hq := hd.2 i hi
  have hgl := gs_lt hw (qw_np hi)
  have hhl := hs_lt (p := M 6 e) hw (qw_np hi)
  unfold q_X10_isBorne
  simp only [sq]
  rw [nI_3, gi_in _ (by omega) (by decide), cl_nI (by omega), b3.1, gi_in _ (by omega) (by decide), cl_nI (by omega), w1.1]
  obtain ⟨s', ee, h1⟩ := for_ex (σ := Int32) (fun n k s => lp_X10_isBorne_20 N (nI e) (nI i) (nI (M 4 (M 6 e))) g n s (nI k)) (M 0 1) (fun k s => s = if bB M e (qw M S0 e i) (fun k => S0 k - Ld k) k then 1 else 0) (fun s => some s)
    (fun n k s hk hI => by
      refine ⟨if bB M e (qw M S0 e i) (fun k => S0 k - Ld k) (k + 1) then 1 else 0, ?_, rfl⟩
      have l1 := hL k (by omega)
      have l2 := hS k (by omega)
      show lp_X10_isBorne_20 N (nI e) (nI i) (nI (M 4 (M 6 e))) g (n + 1) s (nI k) = lp_X10_isBorne_20 N (nI e) (nI i) (nI (M 4 (M 6 e))) g n (if (bB M e (qw M S0 e i) (fun k => S0 k - Ld k) k && (!(gsN (qw M S0 e i) (qw M S0 e i).length).testBit k || (decide (1 ≤ S0 k - Ld k) && decide (hK M e (qw M S0 e i) k ≤ S0 k - Ld k)))) = true then 1 else 0) (nI (k + 1))
      rw [lp_X10_isBorne_20_s, hg.1.2.1, if_neg (nI_ge (by omega) (by omega))]
      simp only [sq]
      rw [show (1000 : Int32) * nI e = nI (1000 * e) from pk_mul 1000 e, nI_add, gi_in _ (by omega) (by decide), gi_in _ (by omega) (by decide), cl_nI (by omega), cl_nI (by omega), show g 14 (1000 * e + i) = nI (gsN (qw M S0 e i) (qw M S0 e i).length) from hq.1, show g 15 (1000 * e + i) = nI (hsN M (M 6 e) (qw M S0 e i) (qw M S0 e i).length) from hq.2, bitI (by omega) (by omega), bitI (by omega) (by omega), nI_1]
      cases cg : (gsN (qw M S0 e i) (qw M S0 e i).length).testBit k with
      | false =>
        rw [if_neg (show ¬ (false = true) by decide), if_neg (show ¬ (0 : Int32) = 1 by decide), hI]
        simp
      | true =>
        rw [if_pos (show (true = true) from rfl), if_pos rfl]
        have key : ∀ v : Nat, v ≤ 9 → hK M e (qw M S0 e i) k = v → (if s = 0 then lp_X10_isBorne_20 N (nI e) (nI i) (nI (M 4 (M 6 e))) g n 0 (nI (k + 1)) else if nI (S0 k - Ld k) ≤ 0 then lp_X10_isBorne_20 N (nI e) (nI i) (nI (M 4 (M 6 e))) g n 0 (nI (k + 1)) else if nI (S0 k - Ld k) < nI v then lp_X10_isBorne_20 N (nI e) (nI i) (nI (M 4 (M 6 e))) g n 0 (nI (k + 1)) else lp_X10_isBorne_20 N (nI e) (nI i) (nI (M 4 (M 6 e))) g n 1 (nI (k + 1))) = lp_X10_isBorne_20 N (nI e) (nI i) (nI (M 4 (M 6 e))) g n (if (bB M e (qw M S0 e i) (fun k => S0 k - Ld k) k && (!true || (decide (1 ≤ S0 k - Ld k) && decide (hK M e (qw M S0 e i) k ≤ S0 k - Ld k)))) = true then 1 else 0) (nI (k + 1)) := by
          intro v hv9 hv
          rw [hv]
          cases cb : bB M e (qw M S0 e i) (fun k => S0 k - Ld k) k with
          | false =>
            rw [cb, if_neg (by decide)] at hI
            rw [hI, if_pos rfl]
            simp
          | true =>
            rw [cb, if_pos rfl] at hI
            rw [hI, if_neg z10]
            by_cases c1 : 1 ≤ S0 k - Ld k
            · rw [if_neg (nI_nle (by omega) (by omega))]
              by_cases c2 : v ≤ S0 k - Ld k
              · rw [if_neg (nI_nlt c2 (by omega))]
                simp [c1, c2]
              · rw [if_pos (nI_lt (by omega) (by omega))]
                simp [c1, c2]
            · rw [show S0 k - Ld k = 0 by omega, if_pos (show nI 0 ≤ 0 by decide)]
              simp
        by_cases ch : (hsN M (M 6 e) (qw M S0 e i) (qw M S0 e i).length).testBit k = true
        · rw [if_pos ch, if_pos rfl, gi_in _ (by omega) (by decide), gi_in _ (by omega) (by decide), gi_in _ (by omega) (by decide), gi_in _ (by omega) (by decide), h8 k (by omega), h17 k (by omega), pk_sub l1]
          exact key (M 4 (M 6 e)) (by omega) (by unfold hK; rw [if_pos ch])
        · rw [if_neg ch, if_neg (show ¬ (0 : Int32) = 1 by decide), gi_in _ (by omega) (by decide), gi_in _ (by omega) (by decide), gi_in _ (by omega) (by decide), gi_in _ (by omega) (by decide), h8 k (by omega), h17 k (by omega), pk_sub l1]
          exact key 0 (by omega) (by unfold hK; rw [if_neg ch]))
    (fun n s hI => by
      show lp_X10_isBorne_20 N (nI e) (nI i) (nI (M 4 (M 6 e))) g (n + 1) s (nI (M 0 1)) = _
      rw [lp_X10_isBorne_20_s, hg.1.2.1, if_pos (Int32.le_refl _)])
    (M 0 1) 0 1 N (by omega) rfl (by omega)
  rw [show lp_X10_isBorne_20 N (nI e) (nI i) (nI (M 4 (M 6 e))) g N 1 0 = some s' from ee, bi_some, h1]
  split
  · rw [rz1]
  · rw [rz0]
theorem loadsG {g : mM} {M : tM} {S0 A Z : Nat → Nat} (hw : WF M) (hg : TG g M) (sg : Int32) {e i : Nat} (h17 : ∀ k, k < 9 → g 17 k = nI (A k)) (he : e < M 0 3) (hd : WD g M S0 e) (hi : i < (WL M S0 e).length) (hz : ∀ k, k < 9 → nI (A k) + (if (hsN M (M 6 e) (qw M S0 e i) (qw M S0 e i).length).testBit k then sg * nI (M 4 (M 6 e)) else 0) = nI (Z k)) {N : Nat} (hN : 1000 ≤ N) : ∃ g' : mM, q_X10_loads N (nI e) (nI i) sg g = some g' ∧ (∀ c, c ≠ 17 → g' c = g c) ∧ ∀ k, k < 9 → g' 17 k = nI (Z k) := by
  have hb := hw.1
  have a3 := hw.2.2.2 e he
  have h512 : (WL M S0 e).length ≤ 512 := PA_512 hw
  have hhl := hs_lt (p := M 6 e) hw (qw_np hi)
  obtain ⟨s', ee, h1, h2, h3⟩ := for_ex (σ := mM) (fun n k s => lp_X10_loads_3 N (nI e) (nI i) sg n (nI k) s) (M 0 1) (fun k s => (∀ c, c ≠ 17 → s c = g c) ∧ (∀ j, j < k → s 17 j = nI (Z j)) ∧ ∀ j, k ≤ j → s 17 j = g 17 j) (fun s => some s)
    (fun n k s hk hI => by
      obtain ⟨i1, i2, i3⟩ := hI
      have hsg : TG s M := hg.go (fun c h1 h2 => i1 c (by omega)) (fun j _ _ => by rw [i1 0 (by decide)])
      have b3 := hsg.2.2.2 e he
      have w1 := hsg.2.2.1 (M 6 e) a3.1
      refine ⟨st2 s 17 k (nI (Z k)), ?_, fun c hc => (st2_c hc).trans (i1 c hc), fun j hj => ?_, fun j hj => (st2_k (by omega)).trans (i3 j (by omega))⟩
      · show lp_X10_loads_3 N (nI e) (nI i) sg (n + 1) (nI k) s = _
        rw [lp_X10_loads_3_s, hsg.1.2.1, if_neg (nI_ge (by omega) (by omega))]
        simp only [sq]
        rw [show (1000 : Int32) * nI e = nI (1000 * e) from pk_mul 1000 e, nI_add, gi_in _ (by omega) (by decide), gi_in _ (by omega) (by decide), gi_in _ (by omega) (by decide), gi_in _ (by omega) (by decide), cl_nI (by omega), cl_nI (by omega), i1 15 (by decide), show g 15 (1000 * e + i) = nI (hsN M (M 6 e) (qw M S0 e i) (qw M S0 e i).length) from (hd.2 i hi).2, bitI (by omega) (by omega), nI_3, gi_in _ (by omega) (by decide), cl_nI (by omega), b3.1, gi_in _ (by omega) (by decide), cl_nI (by omega), w1.1, nI_1, i3 k (Nat.le_refl _), h17 k (by omega), ← hz k (by omega)]
        cases ch : (hsN M (M 6 e) (qw M S0 e i) (qw M S0 e i).length).testBit k with
        | false => rw [if_neg (show ¬ (false = true) by decide), if_neg (show ¬ (0 : Int32) = 1 by decide), if_neg (show ¬ (false = true) by decide)]
        | true => rw [if_pos (show (true = true) from rfl), if_pos rfl, if_pos (show (true = true) from rfl)]
      · by_cases c : j = k
        · rw [c, st2_e]
        · rw [st2_k c]; exact i2 j (by omega))
    (fun n s hI => by
      show lp_X10_loads_3 N (nI e) (nI i) sg (n + 1) (nI (M 0 1)) s = _
      rw [lp_X10_loads_3_s, hI.1 0 (by decide), hg.1.2.1, if_pos (Int32.le_refl _)])
    (M 0 1) 0 g N (by omega) ⟨fun _ _ => rfl, fun j hj => absurd hj (by omega), fun _ _ => rfl⟩ (by omega)
  refine ⟨s', ?_, h1, fun k hk => ?_⟩
  · unfold q_X10_loads
    rw [show lp_X10_loads_3 N (nI e) (nI i) sg N 0 g = some s' from ee, bi_some]
  · by_cases c : k < M 0 1
    · exact h2 k c
    · rw [h3 k (by omega), h17 k hk, ← hz k hk, if_neg, show nI (A k) + 0 = nI (A k) from nI_add _ 0]
      intro hh
      obtain ⟨j, e1, e2, -⟩ := (hsN_iff _ _ k).mp hh
      have := qw_np hi _ (getD_mem e1)
      omega
theorem loadedG {g : mM} {M : tM} {A : Nat → Nat} (hw : WF M) (hg : TG g M) (h17 : ∀ k, k < 9 → g 17 k = nI (A k)) {N : Nat} (hN : 1000 ≤ N) : q_X10_loaded N g = some (nI (sm A (M 0 1))) := by
  have hb := hw.1
  unfold q_X10_loaded
  obtain ⟨s', e, hs⟩ := for_ex (σ := Nat) (fun n k s => lp_X10_loaded_4 N g n (nI s) (nI k)) (M 0 1) (fun k s => s = sm A k) (fun s => some (nI s))
    (fun n k s hk hI => by
      refine ⟨s + A k, ?_, by subst hI; rfl⟩
      show lp_X10_loaded_4 N g (n + 1) (nI s) (nI k) = _
      rw [lp_X10_loaded_4_s, hg.1.2.1, if_neg (nI_ge hk (by omega)), gi_in _ (by omega) (by decide)]
      simp only [sq]
      rw [cl_nI (by omega), h17 k (by omega), nI_add, nI_1])
    (fun n s hI => by
      show lp_X10_loaded_4 N g (n + 1) (nI s) (nI (M 0 1)) = _
      rw [lp_X10_loaded_4_s, hg.1.2.1, if_pos (Int32.le_refl _)])
    (M 0 1) 0 0 N (by omega) rfl (by omega)
  rw [show lp_X10_loaded_4 N g N 0 0 = some (nI s') from e, bi_some, hs]
def nbf (P : Nat → Bool) : Nat → Nat → Nat
  | 0, i => i
  | c + 1, i => if P i then i else nbf P c (i + 1)
theorem nbf_spec (P : Nat → Bool) : ∀ c i, (nbf P c i = i + c ∧ ∀ j, i ≤ j → j < i + c → P j = false) ∨ (i ≤ nbf P c i ∧ nbf P c i < i + c ∧ P (nbf P c i) = true ∧ ∀ j, i ≤ j → j < nbf P c i → P j = false) := by
  intro c
  induction c with
  | zero => intro i; exact Or.inl ⟨rfl, fun j h1 h2 => absurd h2 (by omega)⟩
  | succ c ih =>
    intro i
    by_cases h : P i = true
    · have e : nbf P (c + 1) i = i := if_pos h
      rw [e]
      exact Or.inr ⟨Nat.le_refl _, by omega, h, fun j a1 a2 => absurd a2 (by omega)⟩
    · have e : nbf P (c + 1) i = nbf P c (i + 1) := if_neg h
      have h : P i = false := by simpa using h
      rw [e]
      rcases ih (i + 1) with ⟨h1, h2⟩ | ⟨h1, h2, h3, h4⟩
      · refine Or.inl ⟨by omega, fun j a1 a2 => ?_⟩
        by_cases c : j = i
        · rw [c]; exact h
        · exact h2 j (by omega) (by omega)
      · refine Or.inr ⟨by omega, by omega, h3, fun j a1 a2 => ?_⟩
        by_cases c : j = i
        · rw [c]; exact h
        · exact h4 j (by omega) a2
theorem adv104 {g : mM} {M : tM} {S0 Ld : Nat → Nat} (hw : WF M) (hg : TG g M) (hS : ∀ k, k < 9 → S0 k ≤ 9) (h8 : ∀ k, k < 9 → g 8 k = nI (S0 k)) (h17 : ∀ k, k < 9 → g 17 k = nI (Ld k)) (hL : ∀ k, k < 9 → Ld k ≤ S0 k) {e : Nat} (he : e < M 0 3) (hd : WD g M S0 e) (x2 : Int32) {N : Nat} (hN : 1000 ≤ N) : ∀ c i n (g' : mM), i + c = (WL M S0 e).length → c < n → (∀ d, d ≠ 13 → g' d = g d) → (∀ j, j ≠ e → g' 13 j = g 13 j) → g' 13 e = nI i → ∃ g2 : mM, lp_X10_leastTaken_104 N x2 (nI e) n g' = some g2 ∧ (∀ d, d ≠ 13 → g2 d = g d) ∧ (∀ j, j ≠ e → g2 13 j = g 13 j) ∧ g2 13 e = nI (nbf (fun i => bB M e (qw M S0 e i) (fun k => S0 k - Ld k) (M 0 1)) c i) := by
  have hb := hw.1
  have h512 : (WL M S0 e).length ≤ 512 := PA_512 hw
  intro c
  induction c with
  | zero =>
    intro i n g' hi hn k1 k2 k3
    obtain ⟨n, rfl⟩ : ∃ j, n = j + 1 := ⟨n - 1, by omega⟩
    refine ⟨g', ?_, k1, k2, k3⟩
    rw [lp_X10_leastTaken_104_s, gi_in _ (by omega) (by decide), gi_in _ (by omega) (by decide), cl_nI (by omega), k3, k1 16 (by decide), hd.1, show i = (WL M S0 e).length by omega, if_pos (Int32.le_refl _)]
  | succ c ih =>
    intro i n g' hi hn k1 k2 k3
    obtain ⟨n, rfl⟩ : ∃ j, n = j + 1 := ⟨n - 1, by omega⟩
    have hg' : TG g' M := hg.go (fun d h1 h2 => k1 d (by omega)) (fun j _ _ => by rw [k1 0 (by decide)])
    have hd' : WD g' M S0 e := by
      unfold WD
      rw [k1 16 (by decide), k1 14 (by decide), k1 15 (by decide)]
      exact hd
    have step := lp_X10_leastTaken_104_s N x2 (nI e) n g'
    simp only [sq] at step
    rw [gi_in _ (by omega) (by decide), gi_in _ (by omega) (by decide), cl_nI (by omega), k3, hd'.1, if_neg (nI_ge (by omega) (by omega)), gi_in _ (by omega) (by decide), isBorneG (i := i) hw hg' hS (fun k hk => by rw [k1 8 (by decide)]; exact h8 k hk) (fun k hk => by rw [k1 17 (by decide)]; exact h17 k hk) hL he hd' (by omega) hN, bi_some, gi_in _ (by omega) (by decide), gi_in _ (by omega) (by decide), nI_1] at step
    show ∃ g2 : mM, _ ∧ _ ∧ _ ∧ g2 13 e = nI (if bB M e (qw M S0 e i) (fun k => S0 k - Ld k) (M 0 1) = true then i else nbf _ c (i + 1))
    cases cb : bB M e (qw M S0 e i) (fun k => S0 k - Ld k) (M 0 1) with
    | true =>
      rw [cb, if_pos (show (true = true) from rfl), if_neg z10] at step
      rw [if_pos (show (true = true) from rfl)]
      exact ⟨g', step, k1, k2, k3⟩
    | false =>
      rw [cb, if_neg (show ¬ (false = true) by decide), if_pos rfl] at step
      rw [if_neg (show ¬ (false = true) by decide)]
      obtain ⟨g2, r1, r2, r3, r4⟩ := ih (i + 1) n (st2 g' 13 e (nI (i + 1))) (by omega) (by omega) (fun d hd => (st2_c hd).trans (k1 d hd)) (fun j hj => (st2_k hj).trans (k2 j hj)) st2_e
      exact ⟨g2, step.trans r1, r2, r3, r4⟩
