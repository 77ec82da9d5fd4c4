/-! words -/
theorem letF {f : mM} {L : Nat} {B : Nat → Nat} (hB : TxB L B) (h : TxF f L B) {s b : Nat} (h1 : s < b) (h2 : b ≤ L) (h3 : ∀ j, s ≤ j → j < b → 97 ≤ B j ∧ B j ≤ 122) (h4 : b < L → ¬ (97 ≤ B b ∧ B b ≤ 122)) (hs : f 12 3 = nI s) (hs4 : f 12 4 = nI (s + 1)) {N : Nat} (hN : 1000 ≤ N) : ∃ f', lp_X4_lettersToken_0 N N f = some f' ∧ (∀ c, c ≠ 12 → f' c = f c) ∧ f' 12 3 = nI s ∧ f' 12 4 = nI b := by
  have hL := hB.1
  obtain ⟨f', e, hI⟩ := for_ex (σ := mM) (fun n _ q => lp_X4_lettersToken_0 N n q) (b - s - 1) (fun k q => (∀ c, c ≠ 12 → q c = f c) ∧ q 12 3 = nI s ∧ q 12 4 = nI (s + 1 + k)) (fun q => some q)
    (fun n k q hk hI => by
      have hq : TxF q L B := h.mv (hI.1 1 (by decide)) (hI.1 2 (by decide))
      have hr := h3 (s + 1 + k) (by omega) (by omega)
      refine ⟨st2 q 12 4 (nI (s + 1 + (k + 1))), ?_, fun c hc => by rw [st2_c hc]; exact hI.1 c hc, by rw [st2_k (by decide)]; exact hI.2.1, st2_e⟩
      show lp_X4_lettersToken_0 N (n + 1) q = _
      rw [lp_X4_lettersToken_0_s, hq.1, hI.2.2, if_neg (nI_ge (by omega) (by omega)), byteF hB hq (by omega), bi_some, let1 hB ⟨by omega, hr⟩, bi_some, if_neg z10]
      simp only [sq]
      rw [nI_1, Nat.add_assoc (s + 1)])
    (fun n q hI => by
      show lp_X4_lettersToken_0 N (n + 1) q = _
      have hq : TxF q L B := h.mv (hI.1 1 (by decide)) (hI.1 2 (by decide))
      have e : s + 1 + (b - s - 1) = b := by omega
      rw [lp_X4_lettersToken_0_s, hq.1, hI.2.2, e]
      by_cases c : b < L
      · rw [if_neg (nI_ge c (by omega)), byteF hB hq (by omega), bi_some, let0 hB (fun e => h4 c e.2), bi_some, if_pos rfl]
      · rw [if_pos (nI_le (by omega) (by omega))])
    (b - s - 1) 0 f N (by omega) ⟨fun _ _ => rfl, hs, hs4⟩ (by omega)
  have h5 : f' 12 4 = nI (s + 1 + (b - s - 1)) := hI.2.2
  rw [show s + 1 + (b - s - 1) = b by omega] at h5
  exact ⟨f', e, hI.1, hI.2.1, h5⟩
def wv (B : Nat → Nat) (s : Nat) : Nat → Nat
  | 0 => 0
  | k + 1 => 256 * wv B s k + B (s + k)
theorem wv_lt {B : Nat → Nat} {s m : Nat} (h : ∀ j, j < m → B (s + j) < 256) : ∀ k, k ≤ m → wv B s k < 256 ^ k := by
  intro k
  induction k with
  | zero => intro _; exact Nat.one_pos
  | succ k ih =>
    intro hk
    have h1 := ih (by omega)
    have h2 := h k (by omega)
    unfold wv
    rw [Nat.pow_succ]
    omega
theorem addG {V c : Nat} (hc : 0 < c) (hc2 : c < 256) : q_X10_add (lN V) (nI c) = some (lN (256 * V + c)) := by
  unfold q_X10_add
  rw [if_neg (nI_ne0 hc (by omega)), nI_l (by omega), show (256 : Int64) * lN V = lN (256 * V) from lN_mul 256 V, lN_add]
theorem letG {g : mM} {L : Nat} {B : Nat → Nat} (hB : TxB L B) (h : TxG g L B) {s b : Nat} (h1 : s < b) (h2 : b ≤ L) (h3 : ∀ j, s ≤ j → j < b → 97 ≤ B j ∧ B j ≤ 122) (h4 : b < L → ¬ (97 ≤ B b ∧ B b ≤ 122)) (hs4 : g 0 4 = nI s) (hs6 : g 0 6 = nI s) {N : Nat} (hN : 1000 ≤ N) : ∃ g', lp_X10_advances_68 N N 0 g = some (lN (wv B s (min (b - s) 7)), g') ∧ (∀ c, c ≠ 0 → g' c = g c) ∧ (∀ k, k ≠ 4 → g' 0 k = g 0 k) ∧ g' 0 4 = nI b := by
  have hL := hB.1
  obtain ⟨⟨V, g'⟩, e, hI⟩ := for_ex (σ := Int64 × mM) (fun n _ q => lp_X10_advances_68 N n q.1 q.2) (b - s) (fun k q => q.1 = lN (wv B s (min k 7)) ∧ (∀ c, c ≠ 0 → q.2 c = g c) ∧ (∀ k, k ≠ 4 → q.2 0 k = g 0 k) ∧ q.2 0 4 = nI (s + k)) (fun q => some q)
    (fun n k q hk hI => by
      obtain ⟨V, q⟩ := q
      obtain ⟨hV, hI⟩ := hI
      have hV : V = lN (wv B s (min k 7)) := hV
      have hI : (∀ c, c ≠ 0 → q c = g c) ∧ (∀ k, k ≠ 4 → q 0 k = g 0 k) ∧ q 0 4 = nI (s + k) := hI
      have hq : TxG q L B := h.mv (hI.2.1 3 (by decide)) (hI.1 1 (by decide))
      have hr := h3 (s + k) (by omega) (by omega)
      refine ⟨(lN (wv B s (min (k + 1) 7)), st2 q 0 4 (nI (s + (k + 1)))), ?_, rfl, fun c hc => (st2_c hc).trans (hI.1 c hc), fun c hc => (st2_k hc).trans (hI.2.1 c hc), by show st2 q 0 4 (nI (s + (k + 1))) 0 4 = _; exact st2_e⟩
      show lp_X10_advances_68 N (n + 1) V q = lp_X10_advances_68 N n (lN (wv B s (min (k + 1) 7))) (st2 q 0 4 (nI (s + (k + 1))))
      rw [lp_X10_advances_68_s, hI.2.2, byteG hB hq (by omega), bi_some, letG1 hB ⟨by omega, hr⟩, bi_some, if_neg z10]
      simp only [sq]
      rw [hI.2.1 6 (by decide), hs6, pk_sub (by omega), show s + k - s = k by omega, nI_1]
      by_cases c : 7 ≤ k
      · rw [if_pos (show (7 : Int32) ≤ nI k from nI_le (a := 7) c (by omega)), hV, show min k 7 = 7 by omega, show min (k + 1) 7 = 7 by omega, Nat.add_assoc]
      · rw [if_neg (show ¬ (7 : Int32) ≤ nI k from nI_ge (b := 7) (by omega) (by decide)), bi_some, hV, bv_in (by omega), addG (by omega) (by omega), bi_some, show min k 7 = k by omega, show min (k + 1) 7 = k + 1 by omega, Nat.add_assoc]
        rfl)
    (fun n q hI => by
      obtain ⟨V, q⟩ := q
      obtain ⟨hV, hI⟩ := hI
      have hI : (∀ c, c ≠ 0 → q c = g c) ∧ (∀ k, k ≠ 4 → q 0 k = g 0 k) ∧ q 0 4 = nI (s + (b - s)) := hI
      show lp_X10_advances_68 N (n + 1) V q = _
      have hq : TxG q L B := h.mv (hI.2.1 3 (by decide)) (hI.1 1 (by decide))
      have e : s + (b - s) = b := by omega
      rw [lp_X10_advances_68_s, hI.2.2, e, byteG hB hq (by omega), bi_some, letG0 hB (fun e => h4 e.1 e.2), bi_some, if_pos rfl])
    (b - s) 0 (0, g) N (by omega) ⟨rfl, fun _ _ => rfl, fun _ _ => rfl, hs4⟩ (by omega)
  obtain ⟨hV, hI⟩ := hI
  have hV : V = lN (wv B s (min (b - s) 7)) := hV
  have h5 : g' 0 4 = nI (s + (b - s)) := hI.2.2
  rw [show s + (b - s) = b by omega] at h5
  subst hV
  exact ⟨g', e, hI.1, hI.2.1, h5⟩
def wl (i : Nat) : List Nat := [[109, 97, 114, 115, 104], [112, 108, 97, 110, 107], [112, 101, 114, 115, 111, 110], [101, 114, 114, 97, 110, 100]].getD i []
theorem sch_wl : ∀ i, i < 4 → ∀ j, j < 6 → sch i (nI j) = nI ((wl i).getD j 0) := by decide +kernel
theorem wl_lt : ∀ i, i < 4 → ∀ j, j < 6 → (wl i).getD j 0 < 256 := by decide +kernel
def wd (i m : Nat) (B : Nat → Nat) (s : Nat) : Prop := m = (wl i).length ∧ ∀ j, j < (wl i).length → B (s + j) = (wl i).getD j 0
theorem isw0 {f : mM} {L : Nat} {B : Nat → Nat} (hB : TxB L B) (h : TxF f L B) {s b : Nat} (h1 : s < b) (h2 : b ≤ L) (hs : f 12 3 = nI s) (hs4 : f 12 4 = nI b) {N : Nat} (hN : 1000 ≤ N) : ∃ y : Int32, q_X4_isWord_12_0 N f = some y ∧ (y = 1 ∧ wd 0 (b - s) B s ∨ y = 0 ∧ ¬ wd 0 (b - s) B s) := by
  have hL := hB.1
  unfold q_X4_isWord_12_0
  rw [hs, hs4, pk_sub (by omega), rz0, rz1]
  by_cases c : b - s = 5
  · have key : ∀ d k n, k + d = 5 → d < n → ∃ r : Nat, lp_X4_isWord_12_0_20 N f n (nI k) = some r ∧ (r = 1 ∧ (∀ j, k ≤ j → j < 5 → B (s + j) = (wl 0).getD j 0) ∨ r = 0 ∧ ¬ ∀ j, k ≤ j → j < 5 → B (s + j) = (wl 0).getD j 0) := by
      intro d
      induction d with
      | zero =>
        intro k n hk hn
        obtain ⟨n, rfl⟩ : ∃ j, n = j + 1 := ⟨n - 1, by omega⟩
        refine ⟨1, ?_, Or.inl ⟨rfl, fun j a b => absurd b (by omega)⟩⟩
        rw [lp_X4_isWord_12_0_20_s, if_pos (show (5 : Int32) ≤ nI k from nI_le (a := 5) (by omega) (by omega))]
      | succ d ih =>
        intro k n hk hn
        obtain ⟨n, rfl⟩ : ∃ j, n = j + 1 := ⟨n - 1, by omega⟩
        rw [lp_X4_isWord_12_0_20_s, if_neg (show ¬ (5 : Int32) ≤ nI k from nI_ge (b := 5) (by omega) (by decide)), hs, nI_add, byteF hB h (by omega), bi_some, gi_in _ (by omega) (by decide), sch_wl 0 (by decide) k (by omega)]
        by_cases c2 : B (s + k) = (wl 0).getD k 0
        · rw [if_pos (by rw [bv_in (by omega), c2])]
          simp only [sq]
          rw [nI_1]
          obtain ⟨r, e1, e2⟩ := ih (k + 1) n (by omega) (by omega)
          refine ⟨r, e1, ?_⟩
          rcases e2 with ⟨e2, e3⟩ | ⟨e2, e3⟩
          · refine Or.inl ⟨e2, fun j a b => ?_⟩
            by_cases e : j = k
            · subst e; exact c2
            · exact e3 j (by omega) b
          · exact Or.inr ⟨e2, fun e => e3 (fun j a b => e j (by omega) b)⟩
        · have hbb := hB.2 (s + k) (by omega)
          have hwl := wl_lt 0 (by decide) k (by omega)
          rw [if_neg (by rw [bv_in (by omega)]; exact nI_ltN (by omega) (by omega) c2)]
          exact ⟨0, rfl, Or.inr ⟨rfl, fun e => c2 (e k (by omega) (by omega))⟩⟩
    obtain ⟨r, e1, e2⟩ := key 5 0 N (by omega) (by omega)
    rw [c, if_pos (show nI 5 = 5 from rfl)]
    rw [show lp_X4_isWord_12_0_20 N f N 0 = some r from e1, bi_some]
    rcases e2 with ⟨rfl, e3⟩ | ⟨rfl, e3⟩
    · exact ⟨1, rfl, Or.inl ⟨rfl, rfl, fun j hj => e3 j (by omega) hj⟩⟩
    · exact ⟨0, rfl, Or.inr ⟨rfl, fun e => e3 (fun j _ hj => e.2 j hj)⟩⟩
  · rw [if_neg (show ¬ nI (b - s) = 5 from nI_ltN (b := 5) (by omega) (by decide) c)]
    exact ⟨0, rfl, Or.inr ⟨rfl, fun e => c e.1⟩⟩
theorem isw1 {f : mM} {L : Nat} {B : Nat → Nat} (hB : TxB L B) (h : TxF f L B) {s b : Nat} (h1 : s < b) (h2 : b ≤ L) (hs : f 12 3 = nI s) (hs4 : f 12 4 = nI b) {N : Nat} (hN : 1000 ≤ N) : ∃ y : Int32, q_X4_isWord_12_1 N f = some y ∧ (y = 1 ∧ wd 1 (b - s) B s ∨ y = 0 ∧ ¬ wd 1 (b - s) B s) := by
  have hL := hB.1
  unfold q_X4_isWord_12_1
  rw [hs, hs4, pk_sub (by omega), rz0, rz1]
  by_cases c : b - s = 5
  · have key : ∀ d k n, k + d = 5 → d < n → ∃ r : Nat, lp_X4_isWord_12_1_20 N f n (nI k) = some r ∧ (r = 1 ∧ (∀ j, k ≤ j → j < 5 → B (s + j) = (wl 1).getD j 0) ∨ r = 0 ∧ ¬ ∀ j, k ≤ j → j < 5 → B (s + j) = (wl 1).getD j 0) := by
      intro d
      induction d with
      | zero =>
        intro k n hk hn
        obtain ⟨n, rfl⟩ : ∃ j, n = j + 1 := ⟨n - 1, by omega⟩
        refine ⟨1, ?_, Or.inl ⟨rfl, fun j a b => absurd b (by omega)⟩⟩
        rw [lp_X4_isWord_12_1_20_s, if_pos (show (5 : Int32) ≤ nI k from nI_le (a := 5) (by omega) (by omega))]
      | succ d ih =>
        intro k n hk hn
        obtain ⟨n, rfl⟩ : ∃ j, n = j + 1 := ⟨n - 1, by omega⟩
        rw [lp_X4_isWord_12_1_20_s, if_neg (show ¬ (5 : Int32) ≤ nI k from nI_ge (b := 5) (by omega) (by decide)), hs, nI_add, byteF hB h (by omega), bi_some, gi_in _ (by omega) (by decide), sch_wl 1 (by decide) k (by omega)]
        by_cases c2 : B (s + k) = (wl 1).getD k 0
        · rw [if_pos (by rw [bv_in (by omega), c2])]
          simp only [sq]
          rw [nI_1]
          obtain ⟨r, e1, e2⟩ := ih (k + 1) n (by omega) (by omega)
          refine ⟨r, e1, ?_⟩
          rcases e2 with ⟨e2, e3⟩ | ⟨e2, e3⟩
          · refine Or.inl ⟨e2, fun j a b => ?_⟩
            by_cases e : j = k
            · subst e; exact c2
            · exact e3 j (by omega) b
          · exact Or.inr ⟨e2, fun e => e3 (fun j a b => e j (by omega) b)⟩
        · have hbb := hB.2 (s + k) (by omega)
          have hwl := wl_lt 1 (by decide) k (by omega)
          rw [if_neg (by rw [bv_in (by omega)]; exact nI_ltN (by omega) (by omega) c2)]
          exact ⟨0, rfl, Or.inr ⟨rfl, fun e => c2 (e k (by omega) (by omega))⟩⟩
    obtain ⟨r, e1, e2⟩ := key 5 0 N (by omega) (by omega)
    rw [c, if_pos (show nI 5 = 5 from rfl)]
    rw [show lp_X4_isWord_12_1_20 N f N 0 = some r from e1, bi_some]
    rcases e2 with ⟨rfl, e3⟩ | ⟨rfl, e3⟩
    · exact ⟨1, rfl, Or.inl ⟨rfl, rfl, fun j hj => e3 j (by omega) hj⟩⟩
    · exact ⟨0, rfl, Or.inr ⟨rfl, fun e => e3 (fun j _ hj => e.2 j hj)⟩⟩
  · rw [if_neg (show ¬ nI (b - s) = 5 from nI_ltN (b := 5) (by omega) (by decide) c)]
    exact ⟨0, rfl, Or.inr ⟨rfl, fun e => c e.1⟩⟩
theorem isw2 {f : mM} {L : Nat} {B : Nat → Nat} (hB : TxB L B) (h : TxF f L B) {s b : Nat} (h1 : s < b) (h2 : b ≤ L) (hs : f 12 3 = nI s) (hs4 : f 12 4 = nI b) {N : Nat} (hN : 1000 ≤ N) : ∃ y : Int32, q_X4_isWord_12_2 N f = some y ∧ (y = 1 ∧ wd 2 (b - s) B s ∨ y = 0 ∧ ¬ wd 2 (b - s) B s) := by
  have hL := hB.1
  unfold q_X4_isWord_12_2
  rw [hs, hs4, pk_sub (by omega), rz0, rz1]
  by_cases c : b - s = 6
  · have key : ∀ d k n, k + d = 6 → d < n → ∃ r : Nat, lp_X4_isWord_12_2_20 N f n (nI k) = some r ∧ (r = 1 ∧ (∀ j, k ≤ j → j < 6 → B (s + j) = (wl 2).getD j 0) ∨ r = 0 ∧ ¬ ∀ j, k ≤ j → j < 6 → B (s + j) = (wl 2).getD j 0) := by
      intro d
      induction d with
      | zero =>
        intro k n hk hn
        obtain ⟨n, rfl⟩ : ∃ j, n = j + 1 := ⟨n - 1, by omega⟩
        refine ⟨1, ?_, Or.inl ⟨rfl, fun j a b => absurd b (by omega)⟩⟩
        rw [lp_X4_isWord_12_2_20_s, if_pos (show (6 : Int32) ≤ nI k from nI_le (a := 6) (by omega) (by omega))]
      | succ d ih =>
        intro k n hk hn
        obtain ⟨n, rfl⟩ : ∃ j, n = j + 1 := ⟨n - 1, by omega⟩
        rw [lp_X4_isWord_12_2_20_s, if_neg (show ¬ (6 : Int32) ≤ nI k from nI_ge (b := 6) (by omega) (by decide)), hs, nI_add, byteF hB h (by omega), bi_some, gi_in _ (by omega) (by decide), sch_wl 2 (by decide) k (by omega)]
        by_cases c2 : B (s + k) = (wl 2).getD k 0
        · rw [if_pos (by rw [bv_in (by omega), c2])]
          simp only [sq]
          rw [nI_1]
          obtain ⟨r, e1, e2⟩ := ih (k + 1) n (by omega) (by omega)
          refine ⟨r, e1, ?_⟩
          rcases e2 with ⟨e2, e3⟩ | ⟨e2, e3⟩
          · refine Or.inl ⟨e2, fun j a b => ?_⟩
            by_cases e : j = k
            · subst e; exact c2
            · exact e3 j (by omega) b
          · exact Or.inr ⟨e2, fun e => e3 (fun j a b => e j (by omega) b)⟩
        · have hbb := hB.2 (s + k) (by omega)
          have hwl := wl_lt 2 (by decide) k (by omega)
          rw [if_neg (by rw [bv_in (by omega)]; exact nI_ltN (by omega) (by omega) c2)]
          exact ⟨0, rfl, Or.inr ⟨rfl, fun e => c2 (e k (by omega) (by omega))⟩⟩
    obtain ⟨r, e1, e2⟩ := key 6 0 N (by omega) (by omega)
    rw [c, if_pos (show nI 6 = 6 from rfl)]
    rw [show lp_X4_isWord_12_2_20 N f N 0 = some r from e1, bi_some]
    rcases e2 with ⟨rfl, e3⟩ | ⟨rfl, e3⟩
    · exact ⟨1, rfl, Or.inl ⟨rfl, rfl, fun j hj => e3 j (by omega) hj⟩⟩
    · exact ⟨0, rfl, Or.inr ⟨rfl, fun e => e3 (fun j _ hj => e.2 j hj)⟩⟩
  · rw [if_neg (show ¬ nI (b - s) = 6 from nI_ltN (b := 6) (by omega) (by decide) c)]
    exact ⟨0, rfl, Or.inr ⟨rfl, fun e => c e.1⟩⟩
theorem isw3 {f : mM} {L : Nat} {B : Nat → Nat} (hB : TxB L B) (h : TxF f L B) {s b : Nat} (h1 : s < b) (h2 : b ≤ L) (hs : f 12 3 = nI s) (hs4 : f 12 4 = nI b) {N : Nat} (hN : 1000 ≤ N) : ∃ y : Int32, q_X4_isWord_12_3 N f = some y ∧ (y = 1 ∧ wd 3 (b - s) B s ∨ y = 0 ∧ ¬ wd 3 (b - s) B s) := by
  have hL := hB.1
  unfold q_X4_isWord_12_3
  rw [hs, hs4, pk_sub (by omega), rz0, rz1]
  by_cases c : b - s = 6
  · have key : ∀ d k n, k + d = 6 → d < n → ∃ r : Nat, lp_X4_isWord_12_3_20 N f n (nI k) = some r ∧ (r = 1 ∧ (∀ j, k ≤ j → j < 6 → B (s + j) = (wl 3).getD j 0) ∨ r = 0 ∧ ¬ ∀ j, k ≤ j → j < 6 → B (s + j) = (wl 3).getD j 0) := by
      intro d
      induction d with
      | zero =>
        intro k n hk hn
        obtain ⟨n, rfl⟩ : ∃ j, n = j + 1 := ⟨n - 1, by omega⟩
        refine ⟨1, ?_, Or.inl ⟨rfl, fun j a b => absurd b (by omega)⟩⟩
        rw [lp_X4_isWord_12_3_20_s, if_pos (show (6 : Int32) ≤ nI k from nI_le (a := 6) (by omega) (by omega))]
      | succ d ih =>
        intro k n hk hn
        obtain ⟨n, rfl⟩ : ∃ j, n = j + 1 := ⟨n - 1, by omega⟩
        rw [lp_X4_isWord_12_3_20_s, if_neg (show ¬ (6 : Int32) ≤ nI k from nI_ge (b := 6) (by omega) (by decide)), hs, nI_add, byteF hB h (by omega), bi_some, gi_in _ (by omega) (by decide), sch_wl 3 (by decide) k (by omega)]
        by_cases c2 : B (s + k) = (wl 3).getD k 0
        · rw [if_pos (by rw [bv_in (by omega), c2])]
          simp only [sq]
          rw [nI_1]
          obtain ⟨r, e1, e2⟩ := ih (k + 1) n (by omega) (by omega)
          refine ⟨r, e1, ?_⟩
          rcases e2 with ⟨e2, e3⟩ | ⟨e2, e3⟩
          · refine Or.inl ⟨e2, fun j a b => ?_⟩
            by_cases e : j = k
            · subst e; exact c2
            · exact e3 j (by omega) b
          · exact Or.inr ⟨e2, fun e => e3 (fun j a b => e j (by omega) b)⟩
        · have hbb := hB.2 (s + k) (by omega)
          have hwl := wl_lt 3 (by decide) k (by omega)
          rw [if_neg (by rw [bv_in (by omega)]; exact nI_ltN (by omega) (by omega) c2)]
          exact ⟨0, rfl, Or.inr ⟨rfl, fun e => c2 (e k (by omega) (by omega))⟩⟩
    obtain ⟨r, e1, e2⟩ := key 6 0 N (by omega) (by omega)
    rw [c, if_pos (show nI 6 = 6 from rfl)]
    rw [show lp_X4_isWord_12_3_20 N f N 0 = some r from e1, bi_some]
    rcases e2 with ⟨rfl, e3⟩ | ⟨rfl, e3⟩
    · exact ⟨1, rfl, Or.inl ⟨rfl, rfl, fun j hj => e3 j (by omega) hj⟩⟩
    · exact ⟨0, rfl, Or.inr ⟨rfl, fun e => e3 (fun j _ hj => e.2 j hj)⟩⟩
  · rw [if_neg (show ¬ nI (b - s) = 6 from nI_ltN (b := 6) (by omega) (by decide) c)]
    exact ⟨0, rfl, Or.inr ⟨rfl, fun e => c e.1⟩⟩
/-- which word: the class's number of it; 0: none -/
def kw (K m : Nat) (B : Nat → Nat) (s : Nat) : Prop := (K = 4 ∧ wd 0 m B s) ∨ (K = 5 ∧ ¬ wd 0 m B s ∧ wd 1 m B s) ∨ (K = 6 ∧ ¬ wd 0 m B s ∧ ¬ wd 1 m B s ∧ wd 2 m B s) ∨ (K = 7 ∧ ¬ wd 0 m B s ∧ ¬ wd 1 m B s ∧ ¬ wd 2 m B s ∧ wd 3 m B s) ∨ (K = 0 ∧ ¬ wd 0 m B s ∧ ¬ wd 1 m B s ∧ ¬ wd 2 m B s ∧ ¬ wd 3 m B s)
theorem kw_ex (m : Nat) (B : Nat → Nat) (s : Nat) : ∃ K, kw K m B s := by
  by_cases c0 : wd 0 m B s
  · exact ⟨4, Or.inl ⟨rfl, c0⟩⟩
  · by_cases c1 : wd 1 m B s
    · exact ⟨5, Or.inr (Or.inl ⟨rfl, c0, c1⟩)⟩
    · by_cases c2 : wd 2 m B s
      · exact ⟨6, Or.inr (Or.inr (Or.inl ⟨rfl, c0, c1, c2⟩))⟩
      · by_cases c3 : wd 3 m B s
        · exact ⟨7, Or.inr (Or.inr (Or.inr (Or.inl ⟨rfl, c0, c1, c2, c3⟩)))⟩
        · exact ⟨0, Or.inr (Or.inr (Or.inr (Or.inr ⟨rfl, c0, c1, c2, c3⟩)))⟩
theorem lettersF {f : mM} {L : Nat} {B : Nat → Nat} (hB : TxB L B) (h : TxF f L B) {s b K : Nat} (h1 : s < b) (h2 : b ≤ L) (h3 : ∀ j, s ≤ j → j < b → 97 ≤ B j ∧ B j ≤ 122) (h4 : b < L → ¬ (97 ≤ B b ∧ B b ≤ 122)) (hs : f 12 3 = nI s) (hs4 : f 12 4 = nI (s + 1)) (hK : kw K (b - s) B s) {N : Nat} (hN : 1000 ≤ N) : ∃ f', q_X4_lettersToken N f = some (nI K, f') ∧ (∀ c, c ≠ 12 → f' c = f c) ∧ f' 12 3 = nI s ∧ f' 12 4 = nI b := by
  obtain ⟨f', e, e1, e2, e3⟩ := letF hB h h1 h2 h3 h4 hs hs4 hN
  refine ⟨f', ?_, e1, e2, e3⟩
  have hq : TxF f' L B := h.mv (e1 1 (by decide)) (e1 2 (by decide))
  unfold q_X4_lettersToken
  rw [e, bi_some]
  obtain ⟨y0, a0, b0⟩ := isw0 hB hq h1 h2 e2 e3 hN
  obtain ⟨y1, a1, b1⟩ := isw1 hB hq h1 h2 e2 e3 hN
  obtain ⟨y2, a2, b2⟩ := isw2 hB hq h1 h2 e2 e3 hN
  obtain ⟨y3, a3, b3⟩ := isw3 hB hq h1 h2 e2 e3 hN
  rw [a0, bi_some]
  rcases b0 with ⟨rfl, b0⟩ | ⟨rfl, b0⟩
  · rw [if_neg z10]
    rcases hK with ⟨rfl, k⟩ | ⟨rfl, k, -⟩ | ⟨rfl, k, -⟩ | ⟨rfl, k, -⟩ | ⟨rfl, k, -⟩
    · rfl
    all_goals exact absurd b0 k
  rw [if_pos rfl, a1, bi_some]
  rcases b1 with ⟨rfl, b1⟩ | ⟨rfl, b1⟩
  · rw [if_neg z10]
    rcases hK with ⟨rfl, k⟩ | ⟨rfl, -, k⟩ | ⟨rfl, -, k, -⟩ | ⟨rfl, -, k, -⟩ | ⟨rfl, -, k, -⟩
    · exact absurd k b0
    · rfl
    all_goals exact absurd b1 k
  rw [if_pos rfl, a2, bi_some]
  rcases b2 with ⟨rfl, b2⟩ | ⟨rfl, b2⟩
  · rw [if_neg z10]
    rcases hK with ⟨rfl, k⟩ | ⟨rfl, -, k⟩ | ⟨rfl, -, -, k⟩ | ⟨rfl, -, -, k, -⟩ | ⟨rfl, -, -, k, -⟩
    · exact absurd k b0
    · exact absurd k b1
    · rfl
    all_goals exact absurd b2 k
  rw [if_pos rfl, a3, bi_some]
  rcases b3 with ⟨rfl, b3⟩ | ⟨rfl, b3⟩
  · rw [if_neg z10]
    rcases hK with ⟨rfl, k⟩ | ⟨rfl, -, k⟩ | ⟨rfl, -, -, k⟩ | ⟨rfl, -, -, -, k⟩ | ⟨rfl, -, -, -, k⟩
    · exact absurd k b0
    · exact absurd k b1
    · exact absurd k b2
    · rfl
    · exact absurd b3 k
  · rw [if_pos rfl]
    rcases hK with ⟨rfl, k⟩ | ⟨rfl, -, k⟩ | ⟨rfl, -, -, k⟩ | ⟨rfl, -, -, -, k⟩ | ⟨rfl, -⟩
    · exact absurd k b0
    · exact absurd k b1
    · exact absurd k b2
    · exact absurd k b3
    · rfl
theorem dg {a b c d : Nat} (hb : b < 256) (hd : d < 256) : 256 * a + b = 256 * c + d ↔ a = c ∧ b = d := by omega
theorem wvd0 {B : Nat → Nat} {s m : Nat} (hm : 1 ≤ m) (h3 : ∀ j, j < m → 97 ≤ B (s + j) ∧ B (s + j) ≤ 122) : wv B s (min m 7) = 469786325864 ↔ wd 0 m B s := by
  have hw0 : wv B s 0 = 0 := rfl
  have hw1 : wv B s 1 = 256 * wv B s 0 + B (s + 0) := rfl
  have hw2 : wv B s 2 = 256 * wv B s 1 + B (s + 1) := rfl
  have hw3 : wv B s 3 = 256 * wv B s 2 + B (s + 2) := rfl
  have hw4 : wv B s 4 = 256 * wv B s 3 + B (s + 3) := rfl
  have hw5 : wv B s 5 = 256 * wv B s 4 + B (s + 4) := rfl
  have hw6 : wv B s 6 = 256 * wv B s 5 + B (s + 5) := rfl
  have hw7 : wv B s 7 = 256 * wv B s 6 + B (s + 6) := rfl
  by_cases c : m = 5
  · subst c
    rw [show min 5 7 = 5 from rfl, show (469786325864 : Nat) = (256 * (256 * (256 * (256 * (256 * 0 + 109) + 97) + 114) + 115) + 104) from rfl]
    have q0 := h3 0 (by omega)
    have q1 := h3 1 (by omega)
    have q2 := h3 2 (by omega)
    have q3 := h3 3 (by omega)
    have q4 := h3 4 (by omega)
    rw [hw5, hw4, hw3, hw2, hw1, hw0, dg (by omega) (by omega), dg (by omega) (by omega), dg (by omega) (by omega), dg (by omega) (by omega), dg (by omega) (by omega)]
    constructor
    · rintro ⟨⟨⟨⟨⟨-, k0⟩, k1⟩, k2⟩, k3⟩, k4⟩
      refine ⟨rfl, fun j hj => ?_⟩
      have hj : j < 5 := hj
      rcases (show j = 0 ∨ j = 1 ∨ j = 2 ∨ j = 3 ∨ j = 4 by omega) with rfl | rfl | rfl | rfl | rfl
      · exact k0
      · exact k1
      · exact k2
      · exact k3
      · exact k4
    · intro h
      exact ⟨⟨⟨⟨⟨rfl, h.2 0 (by decide)⟩, h.2 1 (by decide)⟩, h.2 2 (by decide)⟩, h.2 3 (by decide)⟩, h.2 4 (by decide)⟩
  · constructor
    · intro h
      exfalso
      rcases (show m = 1 ∨ m = 2 ∨ m = 3 ∨ m = 4 ∨ m = 5 ∨ m = 6 ∨ 7 ≤ m by omega) with rfl | rfl | rfl | rfl | rfl | rfl | hm7
      · rw [show min 1 7 = 1 by omega, hw1, hw0] at h
        have q0 := h3 0 (by omega)
        omega
      · rw [show min 2 7 = 2 by omega, hw2, hw1, hw0] at h
        have q0 := h3 0 (by omega)
        have q1 := h3 1 (by omega)
        omega
      · rw [show min 3 7 = 3 by omega, hw3, hw2, hw1, hw0] at h
        have q0 := h3 0 (by omega)
        have q1 := h3 1 (by omega)
        have q2 := h3 2 (by omega)
        omega
      · rw [show min 4 7 = 4 by omega, hw4, hw3, hw2, hw1, hw0] at h
        have q0 := h3 0 (by omega)
        have q1 := h3 1 (by omega)
        have q2 := h3 2 (by omega)
        have q3 := h3 3 (by omega)
        omega
      · exact c rfl
      · rw [show min 6 7 = 6 by omega, hw6, hw5, hw4, hw3, hw2, hw1, hw0] at h
        have q0 := h3 0 (by omega)
        have q1 := h3 1 (by omega)
        have q2 := h3 2 (by omega)
        have q3 := h3 3 (by omega)
        have q4 := h3 4 (by omega)
        have q5 := h3 5 (by omega)
        omega
      · rw [show min m 7 = 7 by omega, hw7, hw6, hw5, hw4, hw3, hw2, hw1, hw0] at h
        have q0 := h3 0 (by omega)
        have q1 := h3 1 (by omega)
        have q2 := h3 2 (by omega)
        have q3 := h3 3 (by omega)
        have q4 := h3 4 (by omega)
        have q5 := h3 5 (by omega)
        have q6 := h3 6 (by omega)
        omega
    · intro h
      exact absurd h.1 c
theorem wvd1 {B : Nat → Nat} {s m : Nat} (hm : 1 ≤ m) (h3 : ∀ j, j < m → 97 ≤ B (s + j) ∧ B (s + j) ≤ 122) : wv B s (min m 7) = 482854661739 ↔ wd 1 m B s := by
  have hw0 : wv B s 0 = 0 := rfl
  have hw1 : wv B s 1 = 256 * wv B s 0 + B (s + 0) := rfl
  have hw2 : wv B s 2 = 256 * wv B s 1 + B (s + 1) := rfl
  have hw3 : wv B s 3 = 256 * wv B s 2 + B (s + 2) := rfl
  have hw4 : wv B s 4 = 256 * wv B s 3 + B (s + 3) := rfl
  have hw5 : wv B s 5 = 256 * wv B s 4 + B (s + 4) := rfl
  have hw6 : wv B s 6 = 256 * wv B s 5 + B (s + 5) := rfl
  have hw7 : wv B s 7 = 256 * wv B s 6 + B (s + 6) := rfl
  by_cases c : m = 5
  · subst c
    rw [show min 5 7 = 5 from rfl, show (482854661739 : Nat) = (256 * (256 * (256 * (256 * (256 * 0 + 112) + 108) + 97) + 110) + 107) from rfl]
    have q0 := h3 0 (by omega)
    have q1 := h3 1 (by omega)
    have q2 := h3 2 (by omega)
    have q3 := h3 3 (by omega)
    have q4 := h3 4 (by omega)
    rw [hw5, hw4, hw3, hw2, hw1, hw0, dg (by omega) (by omega), dg (by omega) (by omega), dg (by omega) (by omega), dg (by omega) (by omega), dg (by omega) (by omega)]
    constructor
    · rintro ⟨⟨⟨⟨⟨-, k0⟩, k1⟩, k2⟩, k3⟩, k4⟩
      refine ⟨rfl, fun j hj => ?_⟩
      have hj : j < 5 := hj
      rcases (show j = 0 ∨ j = 1 ∨ j = 2 ∨ j = 3 ∨ j = 4 by omega) with rfl | rfl | rfl | rfl | rfl
      · exact k0
      · exact k1
      · exact k2
      · exact k3
      · exact k4
    · intro h
      exact ⟨⟨⟨⟨⟨rfl, h.2 0 (by decide)⟩, h.2 1 (by decide)⟩, h.2 2 (by decide)⟩, h.2 3 (by decide)⟩, h.2 4 (by decide)⟩
  · constructor
    · intro h
      exfalso
      rcases (show m = 1 ∨ m = 2 ∨ m = 3 ∨ m = 4 ∨ m = 5 ∨ m = 6 ∨ 7 ≤ m by omega) with rfl | rfl | rfl | rfl | rfl | rfl | hm7
      · rw [show min 1 7 = 1 by omega, hw1, hw0] at h
        have q0 := h3 0 (by omega)
        omega
      · rw [show min 2 7 = 2 by omega, hw2, hw1, hw0] at h
        have q0 := h3 0 (by omega)
        have q1 := h3 1 (by omega)
        omega
      · rw [show min 3 7 = 3 by omega, hw3, hw2, hw1, hw0] at h
        have q0 := h3 0 (by omega)
        have q1 := h3 1 (by omega)
        have q2 := h3 2 (by omega)
        omega
      · rw [show min 4 7 = 4 by omega, hw4, hw3, hw2, hw1, hw0] at h
        have q0 := h3 0 (by omega)
        have q1 := h3 1 (by omega)
        have q2 := h3 2 (by omega)
        have q3 := h3 3 (by omega)
        omega
      · exact c rfl
      · rw [show min 6 7 = 6 by omega, hw6, hw5, hw4, hw3, hw2, hw1, hw0] at h
        have q0 := h3 0 (by omega)
        have q1 := h3 1 (by omega)
        have q2 := h3 2 (by omega)
        have q3 := h3 3 (by omega)
        have q4 := h3 4 (by omega)
        have q5 := h3 5 (by omega)
        omega
      · rw [show min m 7 = 7 by omega, hw7, hw6, hw5, hw4, hw3, hw2, hw1, hw0] at h
        have q0 := h3 0 (by omega)
        have q1 := h3 1 (by omega)
        have q2 := h3 2 (by omega)
        have q3 := h3 3 (by omega)
        have q4 := h3 4 (by omega)
        have q5 := h3 5 (by omega)
        have q6 := h3 6 (by omega)
        omega
    · intro h
      exact absurd h.1 c
theorem wvd2 {B : Nat → Nat} {s m : Nat} (hm : 1 ≤ m) (h3 : ∀ j, j < m → 97 ≤ B (s + j) ∧ B (s + j) ≤ 122) : wv B s (min m 7) = 123581014175598 ↔ wd 2 m B s := by
  have hw0 : wv B s 0 = 0 := rfl
  have hw1 : wv B s 1 = 256 * wv B s 0 + B (s + 0) := rfl
  have hw2 : wv B s 2 = 256 * wv B s 1 + B (s + 1) := rfl
  have hw3 : wv B s 3 = 256 * wv B s 2 + B (s + 2) := rfl
  have hw4 : wv B s 4 = 256 * wv B s 3 + B (s + 3) := rfl
  have hw5 : wv B s 5 = 256 * wv B s 4 + B (s + 4) := rfl
  have hw6 : wv B s 6 = 256 * wv B s 5 + B (s + 5) := rfl
  have hw7 : wv B s 7 = 256 * wv B s 6 + B (s + 6) := rfl
  by_cases c : m = 6
  · subst c
    rw [show min 6 7 = 6 from rfl, show (123581014175598 : Nat) = (256 * (256 * (256 * (256 * (256 * (256 * 0 + 112) + 101) + 114) + 115) + 111) + 110) from rfl]
    have q0 := h3 0 (by omega)
    have q1 := h3 1 (by omega)
    have q2 := h3 2 (by omega)
    have q3 := h3 3 (by omega)
    have q4 := h3 4 (by omega)
    have q5 := h3 5 (by omega)
    rw [hw6, hw5, hw4, hw3, hw2, hw1, hw0, dg (by omega) (by omega), dg (by omega) (by omega), dg (by omega) (by omega), dg (by omega) (by omega), dg (by omega) (by omega), dg (by omega) (by omega)]
    constructor
    · rintro ⟨⟨⟨⟨⟨⟨-, k0⟩, k1⟩, k2⟩, k3⟩, k4⟩, k5⟩
      refine ⟨rfl, fun j hj => ?_⟩
      have hj : j < 6 := hj
      rcases (show j = 0 ∨ j = 1 ∨ j = 2 ∨ j = 3 ∨ j = 4 ∨ j = 5 by omega) with rfl | rfl | rfl | rfl | rfl | rfl
      · exact k0
      · exact k1
      · exact k2
      · exact k3
      · exact k4
      · exact k5
    · intro h
      exact ⟨⟨⟨⟨⟨⟨rfl, h.2 0 (by decide)⟩, h.2 1 (by decide)⟩, h.2 2 (by decide)⟩, h.2 3 (by decide)⟩, h.2 4 (by decide)⟩, h.2 5 (by decide)⟩
  · constructor
    · intro h
      exfalso
      rcases (show m = 1 ∨ m = 2 ∨ m = 3 ∨ m = 4 ∨ m = 5 ∨ m = 6 ∨ 7 ≤ m by omega) with rfl | rfl | rfl | rfl | rfl | rfl | hm7
      · rw [show min 1 7 = 1 by omega, hw1, hw0] at h
        have q0 := h3 0 (by omega)
        omega
      · rw [show min 2 7 = 2 by omega, hw2, hw1, hw0] at h
        have q0 := h3 0 (by omega)
        have q1 := h3 1 (by omega)
        omega
      · rw [show min 3 7 = 3 by omega, hw3, hw2, hw1, hw0] at h
        have q0 := h3 0 (by omega)
        have q1 := h3 1 (by omega)
        have q2 := h3 2 (by omega)
        omega
      · rw [show min 4 7 = 4 by omega, hw4, hw3, hw2, hw1, hw0] at h
        have q0 := h3 0 (by omega)
        have q1 := h3 1 (by omega)
        have q2 := h3 2 (by omega)
        have q3 := h3 3 (by omega)
        omega
      · rw [show min 5 7 = 5 by omega, hw5, hw4, hw3, hw2, hw1, hw0] at h
        have q0 := h3 0 (by omega)
        have q1 := h3 1 (by omega)
        have q2 := h3 2 (by omega)
        have q3 := h3 3 (by omega)
        have q4 := h3 4 (by omega)
        omega
      · exact c rfl
      · rw [show min m 7 = 7 by omega, hw7, hw6, hw5, hw4, hw3, hw2, hw1, hw0] at h
        have q0 := h3 0 (by omega)
        have q1 := h3 1 (by omega)
        have q2 := h3 2 (by omega)
        have q3 := h3 3 (by omega)
        have q4 := h3 4 (by omega)
        have q5 := h3 5 (by omega)
        have q6 := h3 6 (by omega)
        omega
    · intro h
      exact absurd h.1 c
theorem wvd3 {B : Nat → Nat} {s m : Nat} (hm : 1 ≤ m) (h3 : ∀ j, j < m → 97 ≤ B (s + j) ∧ B (s + j) ≤ 122) : wv B s (min m 7) = 111542219664996 ↔ wd 3 m B s := by
  have hw0 : wv B s 0 = 0 := rfl
  have hw1 : wv B s 1 = 256 * wv B s 0 + B (s + 0) := rfl
  have hw2 : wv B s 2 = 256 * wv B s 1 + B (s + 1) := rfl
  have hw3 : wv B s 3 = 256 * wv B s 2 + B (s + 2) := rfl
  have hw4 : wv B s 4 = 256 * wv B s 3 + B (s + 3) := rfl
  have hw5 : wv B s 5 = 256 * wv B s 4 + B (s + 4) := rfl
  have hw6 : wv B s 6 = 256 * wv B s 5 + B (s + 5) := rfl
  have hw7 : wv B s 7 = 256 * wv B s 6 + B (s + 6) := rfl
  by_cases c : m = 6
  · subst c
    rw [show min 6 7 = 6 from rfl, show (111542219664996 : Nat) = (256 * (256 * (256 * (256 * (256 * (256 * 0 + 101) + 114) + 114) + 97) + 110) + 100) from rfl]
    have q0 := h3 0 (by omega)
    have q1 := h3 1 (by omega)
    have q2 := h3 2 (by omega)
    have q3 := h3 3 (by omega)
    have q4 := h3 4 (by omega)
    have q5 := h3 5 (by omega)
    rw [hw6, hw5, hw4, hw3, hw2, hw1, hw0, dg (by omega) (by omega), dg (by omega) (by omega), dg (by omega) (by omega), dg (by omega) (by omega), dg (by omega) (by omega), dg (by omega) (by omega)]
    constructor
    · rintro ⟨⟨⟨⟨⟨⟨-, k0⟩, k1⟩, k2⟩, k3⟩, k4⟩, k5⟩
      refine ⟨rfl, fun j hj => ?_⟩
      have hj : j < 6 := hj
      rcases (show j = 0 ∨ j = 1 ∨ j = 2 ∨ j = 3 ∨ j = 4 ∨ j = 5 by omega) with rfl | rfl | rfl | rfl | rfl | rfl
      · exact k0
      · exact k1
      · exact k2
      · exact k3
      · exact k4
      · exact k5
    · intro h
      exact ⟨⟨⟨⟨⟨⟨rfl, h.2 0 (by decide)⟩, h.2 1 (by decide)⟩, h.2 2 (by decide)⟩, h.2 3 (by decide)⟩, h.2 4 (by decide)⟩, h.2 5 (by decide)⟩
  · constructor
    · intro h
      exfalso
      rcases (show m = 1 ∨ m = 2 ∨ m = 3 ∨ m = 4 ∨ m = 5 ∨ m = 6 ∨ 7 ≤ m by omega) with rfl | rfl | rfl | rfl | rfl | rfl | hm7
      · rw [show min 1 7 = 1 by omega, hw1, hw0] at h
        have q0 := h3 0 (by omega)
        omega
      · rw [show min 2 7 = 2 by omega, hw2, hw1, hw0] at h
        have q0 := h3 0 (by omega)
        have q1 := h3 1 (by omega)
        omega
      · rw [show min 3 7 = 3 by omega, hw3, hw2, hw1, hw0] at h
        have q0 := h3 0 (by omega)
        have q1 := h3 1 (by omega)
        have q2 := h3 2 (by omega)
        omega
      · rw [show min 4 7 = 4 by omega, hw4, hw3, hw2, hw1, hw0] at h
        have q0 := h3 0 (by omega)
        have q1 := h3 1 (by omega)
        have q2 := h3 2 (by omega)
        have q3 := h3 3 (by omega)
        omega
      · rw [show min 5 7 = 5 by omega, hw5, hw4, hw3, hw2, hw1, hw0] at h
        have q0 := h3 0 (by omega)
        have q1 := h3 1 (by omega)
        have q2 := h3 2 (by omega)
        have q3 := h3 3 (by omega)
        have q4 := h3 4 (by omega)
        omega
      · exact c rfl
      · rw [show min m 7 = 7 by omega, hw7, hw6, hw5, hw4, hw3, hw2, hw1, hw0] at h
        have q0 := h3 0 (by omega)
        have q1 := h3 1 (by omega)
        have q2 := h3 2 (by omega)
        have q3 := h3 3 (by omega)
        have q4 := h3 4 (by omega)
        have q5 := h3 5 (by omega)
        have q6 := h3 6 (by omega)
        omega
    · intro h
      exact absurd h.1 c
theorem cmpG {V w : Nat} (hV : V < 2 ^ 60) (hw : w < 2 ^ 60) : lg_cmp (lN V) (lN w) = 0 ↔ V = w := by
  unfold lg_cmp
  have h1 : lN V > lN w ↔ w < V := pk_lLT (by omega) (by omega)
  have h2 : lN V = lN w ↔ V = w := pk_lEQ (by omega) (by omega)
  by_cases c : w < V
  · rw [if_pos (h1.mpr c)]
    exact ⟨fun h => absurd h (by decide), fun h => absurd h (by omega)⟩
  · rw [if_neg (fun h => c (h1.mp h))]
    by_cases c2 : V = w
    · rw [if_pos (h2.mpr c2)]
      exact ⟨fun _ => c2, fun _ => rfl⟩
    · rw [if_neg (fun h => c2 (h2.mp h))]
      exact ⟨fun h => absurd h (by decide), fun h => absurd h c2⟩
theorem nm0 : q_X10_named 109 97 114 115 104 0 = some (lN 469786325864) := by decide +kernel
theorem nm1 : q_X10_named 112 108 97 110 107 0 = some (lN 482854661739) := by decide +kernel
theorem nm2 : q_X10_named 112 101 114 115 111 110 = some (lN 123581014175598) := by decide +kernel
theorem nm3 : q_X10_named 101 114 114 97 110 100 = some (lN 111542219664996) := by decide +kernel
theorem wO_eq (x : Int64) : q_X10_wordOf x = if lg_cmp x (lN 469786325864) = 0 then some 0 else if lg_cmp x (lN 482854661739) = 0 then some 1 else if lg_cmp x (lN 123581014175598) = 0 then some 2 else if lg_cmp x (lN 111542219664996) = 0 then some 3 else some (-9) := by
  unfold q_X10_wordOf
  rw [nm0, nm1, nm2, nm3]
  rfl
theorem wordG {B : Nat → Nat} {s m K : Nat} (hm : 1 ≤ m) (h3 : ∀ j, j < m → 97 ≤ B (s + j) ∧ B (s + j) ≤ 122) (hK : kw K m B s) : ∃ x : Int32, q_X10_wordOf (lN (wv B s (min m 7))) = some x ∧ (K = 0 ∧ x = -9 ∨ 4 ≤ K ∧ K ≤ 7 ∧ x = nI (K - 4)) := by
  have hlt := wv_lt (B := B) (s := s) (m := m) (fun j hj => by have := h3 j hj; omega) (min m 7) (by omega)
  have hle : 256 ^ (min m 7) ≤ 256 ^ 7 := Nat.pow_le_pow_right (by decide) (by omega)
  have hV : wv B s (min m 7) < 2 ^ 60 := by
    have : (256 : Nat) ^ 7 < 2 ^ 60 := by decide
    omega
  have d0 := wvd0 hm h3
  have d1 := wvd1 hm h3
  have d2 := wvd2 hm h3
  have d3 := wvd3 hm h3
  rw [wO_eq]
  rcases hK with ⟨rfl, k0⟩ | ⟨rfl, k0, k1⟩ | ⟨rfl, k0, k1, k2⟩ | ⟨rfl, k0, k1, k2, k3⟩ | ⟨rfl, k0, k1, k2, k3⟩
  · rw [if_pos ((cmpG hV (by decide)).mpr (d0.mpr k0))]
    exact ⟨0, rfl, Or.inr ⟨by decide, by decide, rfl⟩⟩
  · rw [if_neg (fun h => k0 (d0.mp ((cmpG hV (by decide)).mp h))), if_pos ((cmpG hV (by decide)).mpr (d1.mpr k1))]
    exact ⟨1, rfl, Or.inr ⟨by decide, by decide, rfl⟩⟩
  · rw [if_neg (fun h => k0 (d0.mp ((cmpG hV (by decide)).mp h))), if_neg (fun h => k1 (d1.mp ((cmpG hV (by decide)).mp h))), if_pos ((cmpG hV (by decide)).mpr (d2.mpr k2))]
    exact ⟨2, rfl, Or.inr ⟨by decide, by decide, rfl⟩⟩
  · rw [if_neg (fun h => k0 (d0.mp ((cmpG hV (by decide)).mp h))), if_neg (fun h => k1 (d1.mp ((cmpG hV (by decide)).mp h))), if_neg (fun h => k2 (d2.mp ((cmpG hV (by decide)).mp h))), if_pos ((cmpG hV (by decide)).mpr (d3.mpr k3))]
    exact ⟨3, rfl, Or.inr ⟨by decide, by decide, rfl⟩⟩
  · rw [if_neg (fun h => k0 (d0.mp ((cmpG hV (by decide)).mp h))), if_neg (fun h => k1 (d1.mp ((cmpG hV (by decide)).mp h))), if_neg (fun h => k2 (d2.mp ((cmpG hV (by decide)).mp h))), if_neg (fun h => k3 (d3.mp ((cmpG hV (by decide)).mp h)))]
    exact ⟨-9, rfl, Or.inl ⟨rfl, rfl⟩⟩
