/-! marsh: the text, as both read it -/
def bv (L : Nat) (B : Nat → Nat) (i : Nat) : Int32 := if i < L then nI (B i) else -1
def TxB (L : Nat) (B : Nat → Nat) : Prop := L ≤ 300 ∧ ∀ j, j < L → B j < 256
def TxF (f : mM) (L : Nat) (B : Nat → Nat) : Prop := f 1 1 = nI L ∧ ∀ j, j < L → f 2 j = (nI (B j)).toInt8.toInt32
def TxG (g : mM) (L : Nat) (B : Nat → Nat) : Prop := g 0 3 = nI L ∧ ∀ j, j < L → g 1 j = nI (B j)
theorem TxF.mv {f f' : mM} {L : Nat} {B : Nat → Nat} (h : TxF f L B) (h1 : f' 1 = f 1) (h2 : f' 2 = f 2) : TxF f' L B := by
  unfold TxF at h ⊢
  rw [h1, h2]
  exact h
theorem TxG.mv {g g' : mM} {L : Nat} {B : Nat → Nat} (h : TxG g L B) (h1 : g' 0 3 = g 0 3) (h2 : g' 1 = g 1) : TxG g' L B := by
  unfold TxG at h ⊢
  rw [h1, h2]
  exact h
theorem byteF {f : mM} {L : Nat} {B : Nat → Nat} (hB : TxB L B) (h : TxF f L B) {i : Nat} (hi : i ≤ 1000) : q_X7_byteAt (nI i) f = some (bv L B i) := by
  have hL := hB.1
  unfold q_X7_byteAt bv
  rw [if_neg (nI_pos (by omega)), h.1]
  by_cases c : i < L
  · rw [if_neg (nI_ge c (by omega)), gi_in _ (by omega) (by decide), cl_nI (by omega), h.2 i c, sc_k8 _ (hB.2 i c), if_pos c]
  · rw [if_pos (nI_le (by omega) (by omega)), if_neg c]
theorem byteG {g : mM} {L : Nat} {B : Nat → Nat} (hB : TxB L B) (h : TxG g L B) {i : Nat} (hi : i ≤ 1000) : q_X10_byteAt (nI i) g = some (bv L B i) := by
  have hL := hB.1
  unfold q_X10_byteAt bv
  rw [h.1]
  by_cases c : i < L
  · rw [if_neg (nI_ge c (by omega)), gi_in _ (by omega) (by decide), cl_nI (by omega), h.2 i c, if_pos c]
  · rw [if_pos (nI_le (by omega) (by omega)), if_neg c]
abbrev rg (lo hi L : Nat) (B : Nat → Nat) (i : Nat) : Prop := i < L ∧ lo ≤ B i ∧ B i ≤ hi
theorem in_bv {L : Nat} {B : Nat → Nat} (hB : TxB L B) {lo hi : Nat} (hl : lo < 256) (hh : hi < 256) (i : Nat) : q_X10_in (bv L B i) (nI lo) (nI hi) = some (if rg lo hi L B i then 1 else 0) := by
  rw [in_eq]
  unfold bv
  by_cases c : i < L
  · have hb := hB.2 i c
    rw [if_pos c]
    by_cases c2 : lo ≤ B i ∧ B i ≤ hi
    · rw [if_pos ⟨nI_le c2.1 (by omega), nI_le c2.2 (by omega)⟩, if_pos ⟨c, c2⟩]
    · rw [if_neg (fun h => c2 ⟨(nI_leI (by omega) (by omega)).mp h.1, (nI_leI (by omega) (by omega)).mp h.2⟩), if_neg (fun h => c2 h.2)]
  · rw [if_neg c, if_neg, if_neg (fun h : rg lo hi L B i => c h.1)]
    intro h
    have h1 := h.1
    rw [i_le, nI_toInt (by omega), show (-1 : Int32).toInt = -1 from rfl] at h1
    omega
theorem dig_bv {L : Nat} {B : Nat → Nat} (hB : TxB L B) (i : Nat) : q_X4_isDigit (bv L B i) = some (if rg 48 57 L B i then 1 else 0) := in_bv hB (lo := 48) (hi := 57) (by decide) (by decide) i
theorem let_bv {L : Nat} {B : Nat → Nat} (hB : TxB L B) (i : Nat) : q_X4_isLetter (bv L B i) = some (if rg 97 122 L B i then 1 else 0) := in_bv hB (lo := 97) (hi := 122) (by decide) (by decide) i
theorem digG_bv {L : Nat} {B : Nat → Nat} (hB : TxB L B) (i : Nat) : q_X10_in (bv L B i) 48 57 = some (if rg 48 57 L B i then 1 else 0) := in_bv hB (lo := 48) (hi := 57) (by decide) (by decide) i
theorem letG_bv {L : Nat} {B : Nat → Nat} (hB : TxB L B) (i : Nat) : q_X10_in (bv L B i) 97 122 = some (if rg 97 122 L B i then 1 else 0) := in_bv hB (lo := 97) (hi := 122) (by decide) (by decide) i
theorem dig1 {L : Nat} {B : Nat → Nat} (hB : TxB L B) {i : Nat} (h : rg 48 57 L B i) : q_X4_isDigit (bv L B i) = some 1 := by rw [dig_bv hB, if_pos h]
theorem dig0 {L : Nat} {B : Nat → Nat} (hB : TxB L B) {i : Nat} (h : ¬ rg 48 57 L B i) : q_X4_isDigit (bv L B i) = some 0 := by rw [dig_bv hB, if_neg h]
theorem let1 {L : Nat} {B : Nat → Nat} (hB : TxB L B) {i : Nat} (h : rg 97 122 L B i) : q_X4_isLetter (bv L B i) = some 1 := by rw [let_bv hB, if_pos h]
theorem let0 {L : Nat} {B : Nat → Nat} (hB : TxB L B) {i : Nat} (h : ¬ rg 97 122 L B i) : q_X4_isLetter (bv L B i) = some 0 := by rw [let_bv hB, if_neg h]
theorem digG1 {L : Nat} {B : Nat → Nat} (hB : TxB L B) {i : Nat} (h : rg 48 57 L B i) : q_X10_in (bv L B i) 48 57 = some 1 := by rw [digG_bv hB, if_pos h]
theorem digG0 {L : Nat} {B : Nat → Nat} (hB : TxB L B) {i : Nat} (h : ¬ rg 48 57 L B i) : q_X10_in (bv L B i) 48 57 = some 0 := by rw [digG_bv hB, if_neg h]
theorem letG1 {L : Nat} {B : Nat → Nat} (hB : TxB L B) {i : Nat} (h : rg 97 122 L B i) : q_X10_in (bv L B i) 97 122 = some 1 := by rw [letG_bv hB, if_pos h]
theorem letG0 {L : Nat} {B : Nat → Nat} (hB : TxB L B) {i : Nat} (h : ¬ rg 97 122 L B i) : q_X10_in (bv L B i) 97 122 = some 0 := by rw [letG_bv hB, if_neg h]
theorem bv_in {L : Nat} {B : Nat → Nat} {i : Nat} (h : i < L) : bv L B i = nI (B i) := if_pos h
theorem bv_out {L : Nat} {B : Nat → Nat} {i : Nat} (h : ¬ i < L) : bv L B i = -1 := if_neg h
theorem nI_neg {a : Nat} (h : a < 2 ^ 31) : ¬ nI a = -1 := by
  intro e
  rw [i_eq, nI_toInt h, show (-1 : Int32).toInt = -1 from rfl] at e
  omega
theorem nI_ltN {a b : Nat} (ha : a < 2 ^ 31) (hb : b < 2 ^ 31) (h : ¬ a = b) : ¬ nI a = nI b := fun e => h ((nI_eq ha hb).mp e)
theorem bv_eq {L : Nat} {B : Nat → Nat} (hB : TxB L B) {i c : Nat} (hc : c < 256) : bv L B i = nI c ↔ i < L ∧ B i = c := by
  by_cases h : i < L
  · rw [bv_in h]
    have hb := hB.2 i h
    rw [nI_eq (by omega) (by omega)]
    exact ⟨fun e => ⟨h, e⟩, fun e => e.2⟩
  · rw [bv_out h]
    exact ⟨fun e => absurd e.symm (nI_neg (by omega)), fun e => absurd e.1 h⟩
theorem bv32 {L : Nat} {B : Nat → Nat} (hB : TxB L B) {i : Nat} : bv L B i = 32 ↔ i < L ∧ B i = 32 := bv_eq hB (c := 32) (by decide)
theorem bv48 {L : Nat} {B : Nat → Nat} (hB : TxB L B) {i : Nat} : bv L B i = 48 ↔ i < L ∧ B i = 48 := bv_eq hB (c := 48) (by decide)
theorem bv59 {L : Nat} {B : Nat → Nat} (hB : TxB L B) {i : Nat} : bv L B i = 59 ↔ i < L ∧ B i = 59 := bv_eq hB (c := 59) (by decide)
theorem scan_ex (P : Nat → Prop) (L : Nat) : ∀ d i, i + d = L → ∃ s, i ≤ s ∧ s ≤ L ∧ (∀ j, i ≤ j → j < s → P j) ∧ (s < L → ¬ P s) := by
  intro d
  induction d with
  | zero => intro i h; exact ⟨i, Nat.le_refl _, by omega, fun j h1 h2 => absurd h2 (by omega), fun h2 => absurd h2 (by omega)⟩
  | succ d ih =>
    intro i h
    by_cases c : P i
    · obtain ⟨s, h1, h2, h3, h4⟩ := ih (i + 1) (by omega)
      refine ⟨s, by omega, h2, fun j a b => ?_, h4⟩
      by_cases e : j = i
      · subst e; exact c
      · exact h3 j (by omega) b
    · exact ⟨i, Nat.le_refl _, by omega, fun j h1 h2 => absurd h2 (by omega), fun _ => c⟩
/-! blanks -/
theorem blankF {f : mM} {L : Nat} {B : Nat → Nat} (hB : TxB L B) (h : TxF f L B) {i s : Nat} (h1 : i ≤ s) (h2 : s ≤ L) (h3 : ∀ j, i ≤ j → j < s → B j = 32) (h4 : s < L → ¬ B s = 32) (hi : f 12 3 = nI i) {N : Nat} (hN : 1000 ≤ N) : ∃ f', lp_X4_readToken_8 N N f = some f' ∧ (∀ c, c ≠ 12 → f' c = f c) ∧ f' 12 3 = nI s := by
  have hL := hB.1
  obtain ⟨f', e, hI⟩ := for_ex (σ := mM) (fun n _ q => lp_X4_readToken_8 N n q) (s - i) (fun k q => (∀ c, c ≠ 12 → q c = f c) ∧ q 12 3 = nI (i + k)) (fun q => some q)
    (fun n k q hk hI => by
      refine ⟨st2 q 12 3 (nI (i + (k + 1))), ?_, fun c hc => by rw [st2_c hc]; exact hI.1 c hc, st2_e⟩
      show lp_X4_readToken_8 N (n + 1) q = _
      have hq : TxF q L B := h.mv (hI.1 1 (by decide)) (hI.1 2 (by decide))
      rw [lp_X4_readToken_8_s, hq.1, hI.2, if_neg (nI_ge (by omega) (by omega)), byteF hB hq (by omega), bi_some, if_pos ((bv32 hB).mpr ⟨by omega, h3 _ (by omega) (by omega)⟩)]
      simp only [sq]
      rw [nI_1, Nat.add_assoc])
    (fun n q hI => by
      show lp_X4_readToken_8 N (n + 1) q = _
      have hq : TxF q L B := h.mv (hI.1 1 (by decide)) (hI.1 2 (by decide))
      have e : i + (s - i) = s := by omega
      rw [lp_X4_readToken_8_s, hq.1, hI.2, e]
      by_cases c : s < L
      · rw [if_neg (nI_ge c (by omega)), byteF hB hq (by omega), bi_some, if_neg (fun e => h4 c ((bv32 hB).mp e).2)]
      · rw [if_pos (nI_le (by omega) (by omega))])
    (s - i) 0 f N (by omega) ⟨fun _ _ => rfl, hi⟩ (by omega)
  have h5 : f' 12 3 = nI (i + (s - i)) := hI.2
  rw [show i + (s - i) = s by omega] at h5
  exact ⟨f', e, hI.1, h5⟩
theorem blankG {g : mM} {L : Nat} {B : Nat → Nat} (hB : TxB L B) (h : TxG g L B) {i s : Nat} (h1 : i ≤ s) (h2 : s ≤ L) (h3 : ∀ j, i ≤ j → j < s → B j = 32) (h4 : s < L → ¬ B s = 32) (hi : g 0 4 = nI i) {N : Nat} (hN : 1000 ≤ N) : ∃ g', lp_X10_advances_0 N N g = some g' ∧ (∀ c, c ≠ 0 → g' c = g c) ∧ (∀ k, k ≠ 4 → g' 0 k = g 0 k) ∧ g' 0 4 = nI s := by
  have hL := hB.1
  obtain ⟨f', e, hI⟩ := for_ex (σ := mM) (fun n _ q => lp_X10_advances_0 N n q) (s - i) (fun k q => (∀ c, c ≠ 0 → q c = g c) ∧ (∀ k, k ≠ 4 → q 0 k = g 0 k) ∧ q 0 4 = nI (i + k)) (fun q => some q)
    (fun n k q hk hI => by
      refine ⟨st2 q 0 4 (nI (i + (k + 1))), ?_, fun c hc => by rw [st2_c hc]; exact hI.1 c hc, fun c hc => by rw [st2_k hc]; exact hI.2.1 c hc, st2_e⟩
      show lp_X10_advances_0 N (n + 1) q = _
      have hq : TxG q L B := h.mv (hI.2.1 3 (by decide)) (hI.1 1 (by decide))
      rw [lp_X10_advances_0_s, hI.2.2, byteG hB hq (by omega), bi_some, if_pos ((bv32 hB).mpr ⟨by omega, h3 _ (by omega) (by omega)⟩)]
      simp only [sq]
      rw [nI_1, Nat.add_assoc])
    (fun n q hI => by
      show lp_X10_advances_0 N (n + 1) q = _
      have hq : TxG q L B := h.mv (hI.2.1 3 (by decide)) (hI.1 1 (by decide))
      have e : i + (s - i) = s := by omega
      rw [lp_X10_advances_0_s, hI.2.2, e, byteG hB hq (by omega), bi_some, if_neg (fun e => h4 ((bv32 hB).mp e).1 ((bv32 hB).mp e).2)])
    (s - i) 0 g N (by omega) ⟨fun _ _ => rfl, fun _ _ => rfl, hi⟩ (by omega)
  have h5 : f' 0 4 = nI (i + (s - i)) := hI.2.2
  rw [show i + (s - i) = s by omega] at h5
  exact ⟨f', e, hI.1, hI.2.1, h5⟩
/-! numbers -/
def dv (B : Nat → Nat) (s : Nat) : Nat → Nat
  | 0 => 0
  | k + 1 => if 99 < dv B s k then dv B s k else 10 * dv B s k + (B (s + k) - 48)
theorem dv_le {B : Nat → Nat} {s m : Nat} (h : ∀ j, j < m → 48 ≤ B (s + j) ∧ B (s + j) ≤ 57) : ∀ k, k ≤ m → dv B s k ≤ 999 := by
  intro k
  induction k with
  | zero => intro _; exact Nat.zero_le _
  | succ k ih =>
    intro hk
    have h1 := ih (by omega)
    have h2 := h k (by omega)
    unfold dv
    split <;> omega
theorem digF {f : mM} {L : Nat} {B : Nat → Nat} (hB : TxB L B) (h : TxF f L B) {s b : Nat} (h1 : s < b) (h2 : b ≤ L) (h3 : ∀ j, s ≤ j → j < b → 48 ≤ B j ∧ B j ≤ 57) (h4 : b < L → ¬ (48 ≤ B b ∧ B b ≤ 57)) (hs : f 12 3 = nI s) (hs4 : f 12 4 = nI (s + 1)) (hv : f 12 5 = nI (B s - 48)) {N : Nat} (hN : 1000 ≤ N) : ∃ f', lp_X4_digitsToken_18 N N f = some f' ∧ (∀ c, c ≠ 12 → f' c = f c) ∧ f' 12 3 = nI s ∧ f' 12 4 = nI b ∧ f' 12 5 = nI (min (dv B s (b - s)) 100) := by
  have hL := hB.1
  have hd := dv_le (B := B) (s := s) (m := b - s) (fun j hj => h3 (s + j) (by omega) (by omega))
  obtain ⟨f', e, hI⟩ := for_ex (σ := mM) (fun n _ q => lp_X4_digitsToken_18 N n q) (b - s - 1) (fun k q => (∀ c, c ≠ 12 → q c = f c) ∧ q 12 3 = nI s ∧ q 12 4 = nI (s + 1 + k) ∧ q 12 5 = nI (min (dv B s (k + 1)) 100)) (fun q => some q)
    (fun n k q hk hI => by
      have hq : TxF q L B := h.mv (hI.1 1 (by decide)) (hI.1 2 (by decide))
      have hr := h3 (s + 1 + k) (by omega) (by omega)
      have hdk := hd (k + 1) (by omega)
      have hval : (if (100 : Int32) < ((10 * nI (min (dv B s (k + 1)) 100)) + nI (B (s + 1 + k))) - 48 then (100 : Int32) else ((10 * nI (min (dv B s (k + 1)) 100)) + nI (B (s + 1 + k))) - 48) = nI (min (dv B s (k + 1 + 1)) 100) := by
        rw [show (10 : Int32) * nI (min (dv B s (k + 1)) 100) = nI (10 * min (dv B s (k + 1)) 100) from pk_mul 10 _, nI_add, show nI (10 * min (dv B s (k + 1)) 100 + B (s + 1 + k)) - 48 = nI (10 * min (dv B s (k + 1)) 100 + B (s + 1 + k) - 48) from pk_sub (b := 48) (by omega)]
        have e1 : dv B s (k + 1 + 1) = if 99 < dv B s (k + 1) then dv B s (k + 1) else 10 * dv B s (k + 1) + (B (s + (k + 1)) - 48) := rfl
        have e3 : s + (k + 1) = s + 1 + k := by omega
        rw [e3] at e1
        by_cases c : 100 < 10 * min (dv B s (k + 1)) 100 + B (s + 1 + k) - 48
        · rw [if_pos (show (100 : Int32) < _ from nI_lt (a := 100) c (by omega))]
          show nI 100 = _
          congr 1
          rw [e1]
          split <;> omega
        · rw [if_neg (show ¬ (100 : Int32) < _ from nI_nlt (a := 100) (by omega) (by decide))]
          congr 1
          rw [e1]
          split <;> omega
      refine ⟨st2 (st2 q 12 5 (nI (min (dv B s (k + 1 + 1)) 100))) 12 4 (nI (s + 1 + (k + 1))), ?_, fun c hc => by rw [st2_c hc, st2_c hc]; exact hI.1 c hc, by rw [st2_k (by decide), st2_k (by decide)]; exact hI.2.1, st2_e, by rw [st2_k (by decide)]; exact st2_e⟩
      show lp_X4_digitsToken_18 N (n + 1) q = _
      rw [lp_X4_digitsToken_18_s, hq.1, hI.2.2.1, if_neg (nI_ge (by omega) (by omega)), byteF hB hq (by omega), bi_some, dig1 hB ⟨by omega, hr⟩, bi_some, if_neg z10, bi_some]
      simp only [sq]
      rw [hI.2.2.2, bv_in (by omega), hval, st2_k (by decide), hI.2.2.1, nI_1, Nat.add_assoc (s + 1)])
    (fun n q hI => by
      show lp_X4_digitsToken_18 N (n + 1) q = _
      have hq : TxF q L B := h.mv (hI.1 1 (by decide)) (hI.1 2 (by decide))
      have e : s + 1 + (b - s - 1) = b := by omega
      rw [lp_X4_digitsToken_18_s, hq.1, hI.2.2.1, e]
      by_cases c : b < L
      · rw [if_neg (nI_ge c (by omega)), byteF hB hq (by omega), bi_some, dig0 hB (fun e => h4 c e.2), bi_some, if_pos rfl]
      · rw [if_pos (nI_le (by omega) (by omega))])
    (b - s - 1) 0 f N (by omega) ⟨fun _ _ => rfl, hs, hs4, by
      rw [hv]
      have hr := h3 s (by omega) (by omega)
      have e1 : dv B s (0 + 1) = B s - 48 := by
        have e0 : dv B s 0 = 0 := rfl
        show (if 99 < dv B s 0 then dv B s 0 else 10 * dv B s 0 + (B (s + 0) - 48)) = _
        rw [e0, if_neg (by decide)]
        simp
      rw [e1]
      congr 1
      omega⟩ (by omega)
  have h5 : f' 12 4 = nI (s + 1 + (b - s - 1)) := hI.2.2.1
  have h6 : f' 12 5 = nI (min (dv B s (b - s - 1 + 1)) 100) := hI.2.2.2
  rw [show s + 1 + (b - s - 1) = b by omega] at h5
  rw [show b - s - 1 + 1 = b - s by omega] at h6
  exact ⟨f', e, hI.1, hI.2.1, h5, h6⟩
theorem digG {g : mM} {L : Nat} {B : Nat → Nat} (hB : TxB L B) (h : TxG g L B) {s b : Nat} (h1 : s < b) (h2 : b ≤ L) (h3 : ∀ j, s ≤ j → j < b → 48 ≤ B j ∧ B j ≤ 57) (h4 : b < L → ¬ (48 ≤ B b ∧ B b ≤ 57)) (hs4 : g 0 4 = nI s) (hv : g 0 7 = 0) (x1 : Int32) {N : Nat} (hN : 1000 ≤ N) : ∃ g', lp_X10_advances_175 N x1 N g = some g' ∧ (∀ c, c ≠ 0 → g' c = g c) ∧ (∀ k, k ≠ 4 → k ≠ 7 → g' 0 k = g 0 k) ∧ g' 0 4 = nI b ∧ g' 0 7 = nI (dv B s (b - s)) := by
  have hL := hB.1
  have hd := dv_le (B := B) (s := s) (m := b - s) (fun j hj => h3 (s + j) (by omega) (by omega))
  obtain ⟨f', e, hI⟩ := for_ex (σ := mM) (fun n _ q => lp_X10_advances_175 N x1 n q) (b - s) (fun k q => (∀ c, c ≠ 0 → q c = g c) ∧ (∀ k, k ≠ 4 → k ≠ 7 → q 0 k = g 0 k) ∧ q 0 4 = nI (s + k) ∧ q 0 7 = nI (dv B s k)) (fun q => some q)
    (fun n k q hk hI => by
      have hq : TxG q L B := h.mv (hI.2.1 3 (by decide) (by decide)) (hI.1 1 (by decide))
      have hr := h3 (s + k) (by omega) (by omega)
      have hdk := hd k (by omega)
      refine ⟨st2 (st2 q 0 7 (nI (dv B s (k + 1)))) 0 4 (nI (s + (k + 1))), ?_, fun c hc => by rw [st2_c hc, st2_c hc]; exact hI.1 c hc, fun c hc hc2 => by rw [st2_k hc, st2_k hc2]; exact hI.2.1 c hc hc2, st2_e, by rw [st2_k (by decide)]; exact st2_e⟩
      show lp_X10_advances_175 N x1 (n + 1) q = _
      rw [lp_X10_advances_175_s, hI.2.2.1, byteG hB hq (by omega), bi_some, digG1 hB ⟨by omega, hr⟩, bi_some, if_neg z10]
      simp only [sq]
      rw [hI.2.2.2, bi_some]
      have e1 : dv B s (k + 1) = if 99 < dv B s k then dv B s k else 10 * dv B s k + (B (s + k) - 48) := rfl
      by_cases c : 99 < dv B s k
      · rw [if_neg (show ¬ nI (dv B s k) ≤ 99 from nI_ge (a := 99) c (by omega)), e1, if_pos c, st2_k (by decide), hI.2.2.1, nI_1, Nat.add_assoc]
      · rw [if_pos (show nI (dv B s k) ≤ 99 from nI_le (b := 99) (by omega) (by decide)), e1, if_neg c, bv_in (by omega), show (10 : Int32) * nI (dv B s k) = nI (10 * dv B s k) from pk_mul 10 _, nI_add, show nI (10 * dv B s k + B (s + k)) - 48 = nI (10 * dv B s k + B (s + k) - 48) from pk_sub (b := 48) (by omega), st2_k (by decide), hI.2.2.1, nI_1, Nat.add_assoc, show 10 * dv B s k + B (s + k) - 48 = 10 * dv B s k + (B (s + k) - 48) by omega])
    (fun n q hI => by
      show lp_X10_advances_175 N x1 (n + 1) q = _
      have hq : TxG q L B := h.mv (hI.2.1 3 (by decide) (by decide)) (hI.1 1 (by decide))
      have e : s + (b - s) = b := by omega
      rw [lp_X10_advances_175_s, hI.2.2.1, e, byteG hB hq (by omega), bi_some, digG0 hB (fun e => h4 e.1 e.2), bi_some, if_pos rfl])
    (b - s) 0 g N (by omega) ⟨fun _ _ => rfl, fun _ _ _ => rfl, hs4, hv⟩ (by omega)
  have h5 : f' 0 4 = nI (s + (b - s)) := hI.2.2.1
  rw [show s + (b - s) = b by omega] at h5
  exact ⟨f', e, hI.1, hI.2.1, h5, hI.2.2.2⟩
