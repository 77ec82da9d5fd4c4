/-! ways under what is borne now, and ways that were listed -/
def Bn (M : tM) (p d : Nat) (S : Nat → Nat) (q : List Nat) : Prop := ∀ j, j < q.length → 1 ≤ S (q.getD j 0) ∧ tk M p (d + j) ≤ S (q.getD j 0)
def apd (M : tM) (p : Nat) : List Nat → Nat → (Nat → Nat) → (Nat → Nat)
  | [], _, S => S
  | k :: q, d, S => apd M p q (d + 1) (upN S k (S k - tk M p d))
def hitl (M : tM) (p : Nat) : List Nat → Nat → Nat → Bool
  | [], _, _ => false
  | j :: q, d, k => (decide (j = k) && decide (1 ≤ tk M p d)) || hitl M p q (d + 1) k
theorem PA_ok {M : tM} {S : Nat → Nat} {p b : Nat} : ∀ m d x B q, q ∈ PA M S p b m d x B → OKw M S p d x B q := by
  intro m
  induction m with
  | zero => intro d x B q h; cases h
  | succ m ih =>
    intro d x B q h
    obtain ⟨j, y, r, h1, h2, h3, h4, h5⟩ := mem_pal _ _ _ h
    subst h5
    have h4 : r ∈ (if y = b then [[]] else PA M S p b m (d + 1) y (B ||| 2 ^ y)) := h4
    refine ⟨by omega, y, h3, ?_⟩
    by_cases c : y = b
    · rw [if_pos c] at h4
      rw [List.mem_singleton.mp h4]
      exact trivial
    · rw [if_neg c] at h4
      exact ih _ _ _ _ h4
theorem getD_mem {r : List Nat} {i : Nat} (h : i < r.length) : r.getD i 0 ∈ r := by
  rw [List.getD_eq_getElem?_getD, List.getElem?_eq_getElem h]
  exact List.getElem_mem h
theorem OKw_np {M : tM} {S : Nat → Nat} {p : Nat} : ∀ (q : List Nat) d x B, OKw M S p d x B q → ∀ k, k ∈ q → k < M 0 1 := by
  intro q
  induction q with
  | nil => intro d x B _ k hk; cases hk
  | cons j q ih =>
    intro d x B h k hk
    obtain ⟨h1, y, h2, h3⟩ := h
    rcases List.mem_cons.mp hk with rfl | hk
    · exact h1
    · exact ih _ _ _ h3 k hk
theorem stp_of {M : tM} {S S1 : Nat → Nat} {p d x B k y : Nat} (h : stp M S p d x B k = some y) (hc : canG M S1 p k d = true) : stp M S1 p d x B k = some y := by
  obtain ⟨a1, a2, -⟩ := stp_some h
  unfold stp
  rw [a1]
  simp [a2, hc]
theorem ways_fwd {M : tM} {S0 : Nat → Nat} {p b : Nat} : ∀ m d x B q (S1 : Nat → Nat), q ∈ PA M S0 p b m d x B → x ≠ b → B.testBit x = true → Bn M p d S1 q → OKm M p b q d x B S1 (apd M p q d S1) := by
  intro m
  induction m with
  | zero => intro d x B q S1 h; cases h
  | succ m ih =>
    intro d x B q S1 h hx hB hbn
    have hok := PA_ok _ _ _ _ _ h
    obtain ⟨j, y, r, h1, h2, h3, h4, h5⟩ := mem_pal _ _ _ h
    subst h5
    have hnew := OKw_new hok hB
    have h4 : r ∈ (if y = b then [[]] else PA M S0 p b m (d + 1) y (B ||| 2 ^ y)) := h4
    have hj := hbn 0 (by simp)
    rw [Nat.add_zero, show (j :: r).getD 0 0 = j from rfl] at hj
    refine ⟨hx, by omega, y, stp_of h3 (by unfold canG; simp [hj]), ?_⟩
    show OKm M p b r (d + 1) y (B ||| 2 ^ y) (upN S1 j (S1 j - tk M p d)) (apd M p r (d + 1) (upN S1 j (S1 j - tk M p d)))
    by_cases c : y = b
    · rw [if_pos c] at h4
      rw [List.mem_singleton.mp h4]
      exact ⟨c, rfl⟩
    · rw [if_neg c] at h4
      refine ih (d + 1) y (B ||| 2 ^ y) r _ h4 c (by rw [Nat.testBit_or, Nat.testBit_two_pow]; simp) (fun i hi => ?_)
      have := hbn (i + 1) (by rw [List.length_cons]; omega)
      rw [show (j :: r).getD (i + 1) 0 = r.getD i 0 from rfl, show d + (i + 1) = d + 1 + i by omega] at this
      rw [upN_n (fun e => hnew (by rw [← e]; exact getD_mem hi))]
      exact this
theorem pal_mem {stq : Nat → Option Nat} {sub : Nat → List (List Nat)} {j y : Nat} {r : List Nat} (hs : stq j = some y) (hr : r ∈ sub y) : ∀ c k, k ≤ j → j < k + c → (j :: r) ∈ pal stq sub c k := by
  intro c
  induction c with
  | zero => intro k h1 h2; omega
  | succ c ih =>
    intro k h1 h2
    show (j :: r) ∈ (match stq k with | none => pal stq sub c (k + 1) | some y => (sub y).map (fun q => k :: q) ++ pal stq sub c (k + 1))
    by_cases e : k = j
    · subst e
      rw [hs]
      exact List.mem_append.mpr (Or.inl (List.mem_map.mpr ⟨r, hr, rfl⟩))
    · have := ih (k + 1) (by omega) (by omega)
      cases stq k with
      | none => exact this
      | some z => exact List.mem_append.mpr (Or.inr this)
theorem ways_bwd {M : tM} (hw : WF M) {S0 : Nat → Nat} {p b : Nat} : ∀ (q : List Nat) d x B (S1 S2 : Nat → Nat) m, OKm M p b q d x B S1 S2 → (∀ k, S1 k ≤ S0 k) → d + 1 + m = M 0 0 → cn (fun z => B.testBit z) (M 0 0) = d + 1 → x ≠ b → q ∈ PA M S0 p b m d x B ∧ Bn M p d S1 q ∧ S2 = apd M p q d S1 := by
  intro q
  induction q with
  | nil => intro d x B S1 S2 m h _ _ _ hx; exact absurd h.1 hx
  | cons k q ih =>
    intro d x B S1 S2 m h hle hm hcn hx
    obtain ⟨-, hk, y, h2, h3⟩ := h
    obtain ⟨a1, a2, a3⟩ := stp_some h2
    have hy := acr_lt hw hk a1
    have hc2 := cn_or a2 hy
    have hc3 := cn_le (fun z => (B ||| 2 ^ y).testBit z) (M 0 0)
    have a3 : 1 ≤ S1 k ∧ tk M p d ≤ S1 k := by simpa [canG] using a3
    have hlk := hle k
    have hs0 : stp M S0 p d x B k = some y := stp_of h2 (by unfold canG; simp; omega)
    obtain ⟨m, rfl⟩ : ∃ j, m = j + 1 := ⟨m - 1, by omega⟩
    have main : q ∈ (if y = b then [[]] else PA M S0 p b m (d + 1) y (B ||| 2 ^ y)) ∧ Bn M p (d + 1) (upN S1 k (S1 k - tk M p d)) q ∧ S2 = apd M p q (d + 1) (upN S1 k (S1 k - tk M p d)) := by
      by_cases c : y = b
      · rw [if_pos c]
        cases q with
        | nil => exact ⟨List.mem_singleton.mpr rfl, fun j hj => absurd hj (by simp), h3.2⟩
        | cons j q => exact absurd c h3.1
      · rw [if_neg c]
        exact ih (d + 1) y (B ||| 2 ^ y) _ S2 m h3 (fun j => Nat.le_trans (upN_le j) (hle j)) (by omega) (by omega) c
    refine ⟨pal_mem hs0 main.1 (M 0 1) 0 (by omega) (by omega), fun j hj => ?_, main.2.2⟩
    cases j with
    | zero => exact a3
    | succ j =>
      have := main.2.1 j (by rw [List.length_cons] at hj; omega)
      rw [show (k :: q).getD (j + 1) 0 = q.getD j 0 from rfl, show d + (j + 1) = d + 1 + j by omega]
      have h5 := upN_le (S := S1) (k := k) (t := tk M p d) (q.getD j 0)
      omega
theorem hitl_mem {M : tM} {p : Nat} : ∀ (q : List Nat) d k, hitl M p q d k = true → k ∈ q := by
  intro q
  induction q with
  | nil => intro d k h; cases h
  | cons j q ih =>
    intro d k h
    have h : ((decide (j = k) && decide (1 ≤ tk M p d)) || hitl M p q (d + 1) k) = true := h
    simp only [Bool.or_eq_true, Bool.and_eq_true, decide_eq_true_eq] at h
    rcases h with h | h
    · rw [h.1]; exact List.mem_cons_self ..
    · exact List.mem_cons_of_mem _ (ih _ _ h)
theorem tk_W {M : tM} {p d : Nat} (h : 1 ≤ tk M p d) : tk M p d = M 4 p := by
  unfold tk at h ⊢
  by_cases c : M 5 p = 2 ∧ d % 2 = 1
  · rw [if_pos c] at h; omega
  · rw [if_neg c]
theorem apd_hit {M : tM} {S0 : Nat → Nat} {p : Nat} : ∀ (q : List Nat) d x B, OKw M S0 p d x B q → B.testBit x = true → ∀ (S1 : Nat → Nat) k, apd M p q d S1 k = S1 k - (if hitl M p q d k then M 4 p else 0) := by
  intro q
  induction q with
  | nil => intro d x B _ _ S1 k; rfl
  | cons j q ih =>
    intro d x B h hB S1 k
    have hnew := OKw_new h hB
    obtain ⟨h1, y, h2, h3⟩ := h
    show apd M p q (d + 1) (upN S1 j (S1 j - tk M p d)) k = S1 k - (if ((decide (j = k) && decide (1 ≤ tk M p d)) || hitl M p q (d + 1) k) = true then M 4 p else 0)
    rw [ih (d + 1) y (B ||| 2 ^ y) h3 (by rw [Nat.testBit_or, Nat.testBit_two_pow]; simp)]
    by_cases c : j = k
    · subst c
      have hno : hitl M p q (d + 1) j = false := by
        cases hh : hitl M p q (d + 1) j with
        | false => rfl
        | true => exact absurd (hitl_mem _ _ _ hh) hnew
      rw [hno, upN_e, if_neg (by decide)]
      by_cases c2 : 1 ≤ tk M p d
      · rw [if_pos (by simp [c2]), tk_W c2, Nat.sub_zero]
      · rw [if_neg (by simp [c2]), show tk M p d = 0 by omega]
        rfl
    · rw [upN_n (fun e => c e.symm)]
      simp [c]
theorem hitl_iff {M : tM} {p : Nat} : ∀ (q : List Nat) d k, hitl M p q d k = true ↔ ∃ j, j < q.length ∧ q.getD j 0 = k ∧ 1 ≤ tk M p (d + j) := by
  intro q
  induction q with
  | nil => intro d k; exact ⟨fun h => (by cases h), fun ⟨j, h, _⟩ => absurd h (by simp)⟩
  | cons i q ih =>
    intro d k
    show ((decide (i = k) && decide (1 ≤ tk M p d)) || hitl M p q (d + 1) k) = true ↔ _
    simp only [Bool.or_eq_true, Bool.and_eq_true, decide_eq_true_eq, ih]
    constructor
    · intro h
      rcases h with ⟨h1, h2⟩ | ⟨j, h1, h2, h3⟩
      · exact ⟨0, by simp, h1, h2⟩
      · exact ⟨j + 1, by rw [List.length_cons]; omega, h2, by rw [show d + (j + 1) = d + 1 + j by omega]; exact h3⟩
    · intro ⟨j, h1, h2, h3⟩
      cases j with
      | zero => exact Or.inl ⟨h2, h3⟩
      | succ j => exact Or.inr ⟨j, by rw [List.length_cons] at h1; omega, h2, by rw [show d + 1 + j = d + (j + 1) by omega]; exact h3⟩
theorem hsN_iff {M : tM} {p : Nat} (q : List Nat) : ∀ n k, (hsN M p q n).testBit k = true ↔ ∃ j, j < n ∧ q.getD j 0 = k ∧ 1 ≤ tk M p j := by
  intro n
  induction n with
  | zero => intro k; exact ⟨fun h => (by rw [show hsN M p q 0 = 0 from rfl, Nat.zero_testBit] at h; cases h), fun ⟨j, h, _⟩ => absurd h (by omega)⟩
  | succ n ih =>
    intro k
    show (if 1 ≤ tk M p n then hsN M p q n ||| 2 ^ q.getD n 0 else hsN M p q n).testBit k = true ↔ _
    by_cases c : 1 ≤ tk M p n
    · rw [if_pos c, Nat.testBit_or, Nat.testBit_two_pow, Bool.or_eq_true, decide_eq_true_eq, ih]
      constructor
      · intro h
        rcases h with ⟨j, h1, h2⟩ | h
        · exact ⟨j, by omega, h2⟩
        · exact ⟨n, by omega, h, c⟩
      · intro ⟨j, h1, h2, h3⟩
        by_cases e : j = n
        · subst e; exact Or.inr h2
        · exact Or.inl ⟨j, by omega, h2, h3⟩
    · rw [if_neg c, ih]
      constructor
      · intro ⟨j, h1, h2⟩
        exact ⟨j, by omega, h2⟩
      · intro ⟨j, h1, h2, h3⟩
        by_cases e : j = n
        · subst e; exact absurd h3 c
        · exact ⟨j, by omega, h2, h3⟩
theorem gsN_iff (q : List Nat) : ∀ n k, (gsN q n).testBit k = true ↔ ∃ j, j < n ∧ q.getD j 0 = k := by
  intro n
  induction n with
  | zero => intro k; exact ⟨fun h => (by rw [show gsN q 0 = 0 from rfl, Nat.zero_testBit] at h; cases h), fun ⟨j, h, _⟩ => absurd h (by omega)⟩
  | succ n ih =>
    intro k
    show (gsN q n ||| 2 ^ q.getD n 0).testBit k = true ↔ _
    rw [Nat.testBit_or, Nat.testBit_two_pow, Bool.or_eq_true, decide_eq_true_eq, ih]
    constructor
    · intro h
      rcases h with ⟨j, h1, h2⟩ | h
      · exact ⟨j, by omega, h2⟩
      · exact ⟨n, by omega, h⟩
    · intro ⟨j, h1, h2⟩
      by_cases e : j = n
      · subst e; exact Or.inr h2
      · exact Or.inl ⟨j, by omega, h2⟩
theorem hs_hit {M : tM} {p : Nat} (q : List Nat) (k : Nat) : (hsN M p q q.length).testBit k = hitl M p q 0 k := by
  have h1 := hsN_iff (M := M) (p := p) q q.length k
  have h2 := hitl_iff (M := M) (p := p) q 0 k
  cases c : hitl M p q 0 k with
  | true =>
    obtain ⟨j, e1, e2, e3⟩ := h2.mp c
    rw [Nat.zero_add] at e3
    exact h1.mpr ⟨j, e1, e2, e3⟩
  | false =>
    cases c2 : (hsN M p q q.length).testBit k with
    | false => rfl
    | true =>
      obtain ⟨j, e1, e2, e3⟩ := h1.mp c2
      rw [h2.mpr ⟨j, e1, e2, by rw [Nat.zero_add]; exact e3⟩] at c
      cases c
/-! the reference's tests and loads -/
def hK (M : tM) (e : Nat) (q : List Nat) (k : Nat) : Nat := if (hsN M (M 6 e) q q.length).testBit k then M 4 (M 6 e) else 0
def bB (M : tM) (e : Nat) (q : List Nat) (S : Nat → Nat) : Nat → Bool
  | 0 => true
  | k + 1 => bB M e q S k && (!(gsN q q.length).testBit k || (decide (1 ≤ S k) && decide (hK M e q k ≤ S k)))
theorem bB_iff {M : tM} {e : Nat} {q : List Nat} {S : Nat → Nat} : ∀ n, bB M e q S n = true ↔ ∀ k, k < n → (gsN q q.length).testBit k = true → 1 ≤ S k ∧ hK M e q k ≤ S k := by
  intro n
  induction n with
  | zero => exact ⟨fun _ k h => absurd h (by omega), fun _ => rfl⟩
  | succ n ih =>
    show (bB M e q S n && (!(gsN q q.length).testBit n || (decide (1 ≤ S n) && decide (hK M e q n ≤ S n)))) = true ↔ _
    rw [Bool.and_eq_true, ih]
    constructor
    · intro ⟨h1, h2⟩ k hk hb
      by_cases c : k = n
      · subst c
        rw [hb] at h2
        simpa using h2
      · exact h1 k (by omega) hb
    · intro h
      refine ⟨fun k hk => h k (by omega), ?_⟩
      cases c : (gsN q q.length).testBit n with
      | false => rfl
      | true => simpa using h n (by omega) c
theorem bB_Bn {M : tM} {e : Nat} {q : List Nat} {S : Nat → Nat} (hq : ∀ k, k ∈ q → k < M 0 1) : bB M e q S (M 0 1) = true ↔ Bn M (M 6 e) 0 S q := by
  rw [bB_iff]
  constructor
  · intro h j hj
    have hk := hq _ (getD_mem hj)
    have h1 := h (q.getD j 0) hk ((gsN_iff q q.length _).mpr ⟨j, hj, rfl⟩)
    refine ⟨h1.1, ?_⟩
    rw [Nat.zero_add]
    by_cases c : 1 ≤ tk M (M 6 e) j
    · have h2 := h1.2
      unfold hK at h2
      rw [if_pos ((hsN_iff q q.length _).mpr ⟨j, hj, rfl, c⟩)] at h2
      rw [tk_W c]; exact h2
    · omega
  · intro h k hk hb
    obtain ⟨j, e1, e2⟩ := (gsN_iff q q.length k).mp hb
    have h1 := h j e1
    rw [e2] at h1
    refine ⟨h1.1, ?_⟩
    unfold hK
    by_cases c : (hsN M (M 6 e) q q.length).testBit k = true
    · rw [if_pos c]
      obtain ⟨i, i1, i2, i3⟩ := (hsN_iff q q.length k).mp c
      have h2 := (h i i1).2
      rw [i2, Nat.zero_add, tk_W i3] at h2
      exact h2
    · rw [if_neg c]; exact Nat.zero_le _
theorem hK_gs {M : tM} {e : Nat} {q : List Nat} {k : Nat} (h : 1 ≤ hK M e q k) : (gsN q q.length).testBit k = true := by
  unfold hK at h
  by_cases c : (hsN M (M 6 e) q q.length).testBit k = true
  · obtain ⟨i, i1, i2, i3⟩ := (hsN_iff q q.length k).mp c
    exact (gsN_iff q q.length k).mpr ⟨i, i1, i2⟩
  · rw [if_neg c] at h; omega
