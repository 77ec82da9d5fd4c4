/-! cuts: what is reached without a set of planks -/
def stepS (M : tM) (T s k : Nat) : Nat := if !T.testBit k && (s.testBit (M 1 k) || s.testBit (M 2 k)) then s ||| (2 ^ M 1 k ||| 2 ^ M 2 k) else s
def sw (M : tM) (T s : Nat) : Nat → Nat
  | 0 => s
  | k + 1 => stepS M T (sw M T s k) k
def itr (M : tM) (T a : Nat) : Nat → Nat
  | 0 => 2 ^ a
  | t + 1 => sw M T (itr M T a t) (M 0 1)
def clo (M : tM) (T s : Nat) : Prop := ∀ k, k < M 0 1 → T.testBit k = false → s.testBit (M 1 k) = s.testBit (M 2 k)
theorem or2_bit (s u v z : Nat) : (s ||| (2 ^ u ||| 2 ^ v)).testBit z = (s.testBit z || (decide (u = z) || decide (v = z))) := by
  rw [Nat.testBit_or, Nat.testBit_or, Nat.testBit_two_pow, Nat.testBit_two_pow]
theorem stepS_mono {M : tM} {T s k z : Nat} (h : s.testBit z = true) : (stepS M T s k).testBit z = true := by
  unfold stepS
  split
  · rw [or2_bit, h, Bool.true_or]
  · exact h
theorem sw_mono {M : tM} {T s z : Nat} {j : Nat} : ∀ i, (sw M T s j).testBit z = true → (sw M T s (j + i)).testBit z = true := by
  intro i
  induction i with
  | zero => intro h; exact h
  | succ i ih => intro h; exact stepS_mono (ih h)
theorem stepS_sub {M : tM} {T s r k : Nat} (hk : k < M 0 1) (hr : clo M T r) (h : ∀ z, s.testBit z = true → r.testBit z = true) : ∀ z, (stepS M T s k).testBit z = true → r.testBit z = true := by
  intro z
  unfold stepS
  by_cases c : (!T.testBit k && (s.testBit (M 1 k) || s.testBit (M 2 k))) = true
  · rw [if_pos c, or2_bit]
    simp only [Bool.and_eq_true, Bool.not_eq_true', Bool.or_eq_true] at c
    obtain ⟨c1, c2⟩ := c
    have hb : r.testBit (M 1 k) = true ∧ r.testBit (M 2 k) = true := by
      have := hr k hk c1
      rcases c2 with c2 | c2
      · have h1 := h _ c2
        exact ⟨h1, by rw [← this]; exact h1⟩
      · have h1 := h _ c2
        exact ⟨by rw [this]; exact h1, h1⟩
    intro hz
    simp only [Bool.or_eq_true, decide_eq_true_eq] at hz
    rcases hz with hz | hz | hz
    · exact h z hz
    · rw [← hz]; exact hb.1
    · rw [← hz]; exact hb.2
  · rw [if_neg c]; exact h z
theorem sw_sub {M : tM} {T s r : Nat} (hr : clo M T r) (h : ∀ z, s.testBit z = true → r.testBit z = true) : ∀ k, k ≤ M 0 1 → ∀ z, (sw M T s k).testBit z = true → r.testBit z = true := by
  intro k
  induction k with
  | zero => intro _; exact h
  | succ k ih => intro hk; exact stepS_sub (by omega) hr (ih (by omega))
theorem itr_sub {M : tM} {T a r : Nat} (hr : clo M T r) (ha : r.testBit a = true) : ∀ t z, (itr M T a t).testBit z = true → r.testBit z = true := by
  intro t
  induction t with
  | zero =>
    intro z hz
    have hz : (2 ^ a).testBit z = true := hz
    rw [Nat.testBit_two_pow, decide_eq_true_eq] at hz
    rw [← hz]; exact ha
  | succ t ih => exact sw_sub hr ih _ (Nat.le_refl _)
theorem itr_a {M : tM} {T a : Nat} : ∀ t, (itr M T a t).testBit a = true := by
  intro t
  induction t with
  | zero => show (2 ^ a).testBit a = true; rw [Nat.testBit_two_pow]; simp
  | succ t ih =>
    have := sw_mono (M := M) (T := T) (s := itr M T a t) (z := a) (j := 0) (M 0 1) ih
    rw [Nat.zero_add] at this
    exact this
theorem stepS_bits {M : tM} (hw : WF M) {T s k : Nat} (hk : k < M 0 1) (h : ∀ z, s.testBit z = true → z < M 0 0) : ∀ z, (stepS M T s k).testBit z = true → z < M 0 0 := by
  intro z
  have a := hw.2.1 k hk
  unfold stepS
  split
  · rw [or2_bit]
    intro hz
    simp only [Bool.or_eq_true, decide_eq_true_eq] at hz
    rcases hz with hz | hz | hz
    · exact h z hz
    · omega
    · omega
  · exact h z
theorem sw_bits {M : tM} (hw : WF M) {T s : Nat} (h : ∀ z, s.testBit z = true → z < M 0 0) : ∀ k, k ≤ M 0 1 → ∀ z, (sw M T s k).testBit z = true → z < M 0 0 := by
  intro k
  induction k with
  | zero => intro _; exact h
  | succ k ih => intro hk; exact stepS_bits hw (by omega) (ih (by omega))
theorem itr_bits {M : tM} (hw : WF M) {T a : Nat} (ha : a < M 0 0) : ∀ t z, (itr M T a t).testBit z = true → z < M 0 0 := by
  intro t
  induction t with
  | zero =>
    intro z hz
    have hz : (2 ^ a).testBit z = true := hz
    rw [Nat.testBit_two_pow, decide_eq_true_eq] at hz
    omega
  | succ t ih => exact sw_bits hw ih _ (Nat.le_refl _)
theorem bits_lt {s n : Nat} (h : ∀ z, s.testBit z = true → z < n) : s < 2 ^ n := by
  apply Nat.lt_pow_two_of_testBit
  intro i hi
  by_cases c : s.testBit i = true
  · have := h i c; omega
  · simpa using c
theorem sw_id {M : tM} {T s : Nat} (h : clo M T s) : ∀ k, k ≤ M 0 1 → sw M T s k = s := by
  intro k
  induction k with
  | zero => intro _; rfl
  | succ k ih =>
    intro hk
    show stepS M T (sw M T s k) k = s
    rw [ih (by omega)]
    unfold stepS
    by_cases c : (!T.testBit k && (s.testBit (M 1 k) || s.testBit (M 2 k))) = true
    · rw [if_pos c]
      simp only [Bool.and_eq_true, Bool.not_eq_true', Bool.or_eq_true] at c
      have he := h k (by omega) c.1
      apply Nat.eq_of_testBit_eq
      intro z
      rw [or2_bit]
      have hb : s.testBit (M 1 k) = true ∧ s.testBit (M 2 k) = true := by
        rcases c.2 with c2 | c2
        · exact ⟨c2, by rw [← he]; exact c2⟩
        · exact ⟨by rw [he]; exact c2, c2⟩
      by_cases c1 : M 1 k = z
      · rw [← c1, hb.1]; rfl
      · by_cases c2 : M 2 k = z
        · rw [← c2, hb.2]; rfl
        · simp [c1, c2]
    · rw [if_neg c]
theorem cn_mono {P Q : Nat → Bool} (h : ∀ z, P z = true → Q z = true) : ∀ n, cn P n ≤ cn Q n := by
  intro n
  induction n with
  | zero => exact Nat.le_refl _
  | succ n ih =>
    show cn P n + (if P n = true then 1 else 0) ≤ cn Q n + (if Q n = true then 1 else 0)
    by_cases c : P n = true
    · rw [if_pos c, if_pos (h n c)]; omega
    · rw [if_neg c]; omega
theorem cn_lt {P Q : Nat → Bool} (h : ∀ z, P z = true → Q z = true) {z : Nat} (hp : P z = false) (hq : Q z = true) : ∀ n, z < n → cn P n + 1 ≤ cn Q n := by
  intro n
  induction n with
  | zero => intro h; omega
  | succ n ih =>
    intro hz
    show cn P n + (if P n = true then 1 else 0) + 1 ≤ cn Q n + (if Q n = true then 1 else 0)
    by_cases c : z = n
    · subst c
      rw [hp, hq, if_neg (by decide), if_pos rfl]
      have := cn_mono h z
      omega
    · have := ih (by omega)
      by_cases c2 : P n = true
      · rw [if_pos c2, if_pos (h n c2)]; omega
      · rw [if_neg c2]; omega
theorem sw_more {M : tM} (hw : WF M) {T s : Nat} (h : ¬ clo M T s) : cn (fun z => s.testBit z) (M 0 0) + 1 ≤ cn (fun z => (sw M T s (M 0 1)).testBit z) (M 0 0) := by
  have hex : ∃ k, k < M 0 1 ∧ T.testBit k = false ∧ s.testBit (M 1 k) ≠ s.testBit (M 2 k) := by
    apply Classical.byContradiction
    intro hn
    apply h
    intro k hk ht
    apply Classical.byContradiction
    intro hne
    exact hn ⟨k, hk, ht, hne⟩
  obtain ⟨k, hk, ht, hne⟩ := hex
  have a := hw.2.1 k hk
  have hm : ∀ z, s.testBit z = true → (sw M T s (M 0 1)).testBit z = true := by
    intro z hz
    have := sw_mono (M := M) (T := T) (s := s) (z := z) (j := 0) (M 0 1) hz
    rwa [Nat.zero_add] at this
  have hk1 : ∀ z, (sw M T s (k + 1)).testBit z = true → (sw M T s (M 0 1)).testBit z = true := by
    intro z hz
    have := sw_mono (M := M) (T := T) (s := s) (z := z) (j := k + 1) (M 0 1 - (k + 1)) hz
    rwa [show k + 1 + (M 0 1 - (k + 1)) = M 0 1 by omega] at this
  have hmk : ∀ z, s.testBit z = true → (sw M T s k).testBit z = true := by
    intro z hz
    have := sw_mono (M := M) (T := T) (s := s) (z := z) (j := 0) k hz
    rwa [Nat.zero_add] at this
  have hstep : ∀ z, ((sw M T s k).testBit (M 1 k) = true ∨ (sw M T s k).testBit (M 2 k) = true) → (z = M 1 k ∨ z = M 2 k) → (sw M T s (k + 1)).testBit z = true := by
    intro z h1 h2
    show (stepS M T (sw M T s k) k).testBit z = true
    unfold stepS
    rw [if_pos (by rw [ht]; rcases h1 with h1 | h1 <;> simp [h1]), or2_bit]
    rcases h2 with h2 | h2 <;> simp [h2]
  cases c1 : s.testBit (M 1 k) with
  | true =>
    cases c2 : s.testBit (M 2 k) with
    | true => rw [c1, c2] at hne; exact absurd rfl hne
    | false => exact cn_lt hm c2 (hk1 _ (hstep _ (Or.inl (hmk _ c1)) (Or.inr rfl))) _ a.2.1
  | false =>
    cases c2 : s.testBit (M 2 k) with
    | true => exact cn_lt hm c1 (hk1 _ (hstep _ (Or.inr (hmk _ c2)) (Or.inl rfl))) _ a.1
    | false => rw [c1, c2] at hne; exact absurd rfl hne
theorem itr_clo {M : tM} (hw : WF M) {T a : Nat} (ha : a < M 0 0) : clo M T (itr M T a (M 0 0)) := by
  have key : ∀ t, clo M T (itr M T a t) ∨ t + 1 ≤ cn (fun z => (itr M T a t).testBit z) (M 0 0) := by
    intro t
    induction t with
    | zero => exact Or.inr (by show 0 + 1 ≤ cn (fun z => (2 ^ a).testBit z) (M 0 0); rw [cn_one ha]; omega)
    | succ t ih =>
      by_cases c : clo M T (itr M T a t)
      · left
        show clo M T (sw M T (itr M T a t) (M 0 1))
        rw [sw_id c _ (Nat.le_refl _)]
        exact c
      · rcases ih with ih | ih
        · exact absurd ih c
        · have := sw_more hw c
          right
          show t + 1 + 1 ≤ cn (fun z => (sw M T (itr M T a t) (M 0 1)).testBit z) (M 0 0)
          omega
  rcases key (M 0 0) with h | h
  · exact h
  · have := cn_le (fun z => (itr M T a (M 0 0)).testBit z) (M 0 0)
    omega
/-! a side's cut -/
def crs (M : tM) (s k : Nat) : Bool := s.testBit (M 1 k) != s.testBit (M 2 k)
def cxb (M : tM) (s : Nat) : Nat → Nat
  | 0 => 0
  | k + 1 => if crs M s k then cxb M s k ||| 2 ^ k else cxb M s k
theorem cxb_bit (M : tM) (s : Nat) : ∀ k z, (cxb M s k).testBit z = (decide (z < k) && crs M s z) := by
  intro k
  induction k with
  | zero => intro z; show Nat.testBit 0 z = _; rw [Nat.zero_testBit]; simp
  | succ k ih =>
    intro z
    show (if crs M s k = true then cxb M s k ||| 2 ^ k else cxb M s k).testBit z = _
    by_cases c : crs M s k = true
    · rw [if_pos c, Nat.testBit_or, Nat.testBit_two_pow, ih z]
      by_cases c1 : z = k
      · subst c1; simp [c]
      · by_cases c2 : z < k
        · simp [c2, show z < k + 1 by omega, show ¬ k = z by omega]
        · simp [c2, show ¬ z < k + 1 by omega, show ¬ k = z by omega]
    · rw [if_neg c, ih z]
      by_cases c1 : z = k
      · subst c1; simp [c]
      · by_cases c2 : z < k
        · simp [c2, show z < k + 1 by omega]
        · simp [c2, show ¬ z < k + 1 by omega]
def sB (S : Nat → Nat) (w T k : Nat) : Nat := if T.testBit k then S k / w else 0
def sepT (M : tM) (a b T : Nat) : Bool := !(itr M T a (M 0 0)).testBit b
def cutS (M : tM) (s : Nat) : Nat := cxb M s (M 0 1)
theorem cutS_lt (M : tM) (s : Nat) : cutS M s < 2 ^ M 0 1 := bits_lt (fun z hz => by
  rw [cutS, cxb_bit] at hz
  simp only [Bool.and_eq_true, decide_eq_true_eq] at hz
  exact hz.1)
/-- a side's cut separates -/
theorem side_sep {M : tM} {a b s : Nat} (ha : s.testBit a = true) (hb : s.testBit b = false) : sepT M a b (cutS M s) = true := by
  have hc : clo M (cutS M s) s := by
    intro k hk ht
    rw [cutS, cxb_bit] at ht
    simp only [hk, decide_true, Bool.true_and] at ht
    unfold crs at ht
    simpa using ht
  unfold sepT
  cases h : (itr M (cutS M s) a (M 0 0)).testBit b with
  | false => rfl
  | true => rw [itr_sub hc ha _ _ h] at hb; cases hb
theorem sub_le {A B : Nat} (h : ∀ z, A.testBit z = true → B.testBit z = true) : A ≤ B := by
  have : A &&& B = A := by
    apply Nat.eq_of_testBit_eq
    intro z
    rw [Nat.testBit_and]
    cases c : A.testBit z with
    | false => rfl
    | true => rw [h z c]; rfl
  rw [← this]
  exact Nat.and_le_right
theorem sm_mono {P Q : Nat → Nat} (h : ∀ k, P k ≤ Q k) : ∀ n, sm P n ≤ sm Q n := by
  intro n
  induction n with
  | zero => exact Nat.le_refl _
  | succ n ih => have := h n; show sm P n + P n ≤ sm Q n + Q n; omega
/-- what separates holds a side's cut -/
theorem sep_side {M : tM} (hw : WF M) {a b T : Nat} (ha : a < M 0 0) (h : sepT M a b T = true) (S : Nat → Nat) (w : Nat) : ∃ s, s < 2 ^ M 0 0 ∧ s.testBit a = true ∧ s.testBit b = false ∧ cutS M s ≤ T ∧ sm (sB S w (cutS M s)) (M 0 1) ≤ sm (sB S w T) (M 0 1) := by
  have hsub : ∀ z, (cutS M (itr M T a (M 0 0))).testBit z = true → T.testBit z = true := by
    intro z hz
    rw [cutS, cxb_bit] at hz
    simp only [Bool.and_eq_true, decide_eq_true_eq] at hz
    cases c : T.testBit z with
    | true => rfl
    | false =>
      have := itr_clo hw (T := T) ha z hz.1 c
      have h2 := hz.2
      unfold crs at h2
      rw [this] at h2
      simp at h2
  refine ⟨itr M T a (M 0 0), bits_lt (itr_bits hw ha _), itr_a _, ?_, sub_le hsub, sm_mono (fun k => ?_) _⟩
  · unfold sepT at h
    simpa using h
  · unfold sB
    by_cases c : (cutS M (itr M T a (M 0 0))).testBit k = true
    · rw [if_pos c, if_pos (hsub k c)]; exact Nat.le_refl _
    · rw [if_neg c]; exact Nat.zero_le _
