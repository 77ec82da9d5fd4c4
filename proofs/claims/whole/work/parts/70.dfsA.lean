/-! bits -/
theorem sh_amt : ∀ y, y < 9 → ((nI y &&& 31).toBitVec.smod 32).toNat = y := by decide
theorem sh_l {y : Nat} (hy : y < 9) : (1 : Int32) <<< (nI y &&& 31) = nI (2 ^ y) := by
  have := pk_shlN (n := 1) (nI y &&& 31) y (sh_amt y hy) (by
    have : 2 ^ y ≤ 2 ^ 9 := Nat.pow_le_pow_right (by omega) (by omega)
    omega)
  rw [Nat.one_mul] at this
  exact this
theorem sh_r {B y : Nat} (hB : B < 2 ^ 20) (hy : y < 9) : (nI B >>> (nI y &&& 31)) &&& 1 = nI (B / 2 ^ y % 2) := by
  rw [pk_shrN (by omega) (nI y &&& 31) y (sh_amt y hy)]
  have h : B / 2 ^ y < 2 ^ 32 := Nat.lt_of_le_of_lt (Nat.div_le_self _ _) (by omega)
  exact pk_andN h (m := 1) 1 rfl
theorem or_nI (a b : Nat) : nI a ||| nI b = nI (a ||| b) := by
  apply Int32.toBitVec_inj.mp
  show (BitVec.ofNat 32 a ||| BitVec.ofNat 32 b) = BitVec.ofNat 32 (a ||| b)
  apply BitVec.eq_of_toNat_eq
  rw [BitVec.toNat_or, BitVec.toNat_ofNat, BitVec.toNat_ofNat, BitVec.toNat_ofNat, ← Nat.or_mod_two_pow]
theorem bit_div (B y : Nat) : B / 2 ^ y % 2 = if B.testBit y then 1 else 0 := by
  rw [Nat.testBit_eq_decide_div_mod_eq]
  have : B / 2 ^ y % 2 < 2 := Nat.mod_lt _ (by omega)
  by_cases h : B / 2 ^ y % 2 = 1
  · simp [h]
  · have h0 : B / 2 ^ y % 2 = 0 := by omega
    simp [h0]
theorem isIn_eq {B y : Nat} (hB : B < 2 ^ 20) (hy : y < 9) : q_X9_isIn (nI B) (nI y) = some (if B.testBit y then 1 else 0) := by
  unfold q_X9_isIn
  rw [sh_r hB hy, bit_div, rz0, rz1]
  by_cases h : B.testBit y = true
  · rw [if_pos h, if_pos h]; rfl
  · rw [if_neg h, if_neg h]; rfl
/-! one step of a way -/
def tk (M : tM) (p i : Nat) : Nat := if M 5 p = 2 ∧ i % 2 = 1 then 0 else M 4 p
def acr (M : tM) (k x : Nat) : Option Nat := if M 1 k = x then some (M 2 k) else if M 2 k = x then some (M 1 k) else none
def canG (M : tM) (S : Nat → Nat) (p k d : Nat) : Bool := decide (1 ≤ S k ∧ tk M p d ≤ S k)
theorem tk_le {M : tM} (hw : WF M) {p : Nat} (hp : p < M 0 2) (i : Nat) : tk M p i ≤ 3 := by
  have := hw.2.2.1 p hp
  unfold tk
  split <;> omega
theorem rem2 {d : Nat} (hd : d < 2 ^ 20) : nI d - nI d / 2 * 2 = nI (d % 2) := pk_rem (a := d) (d := 2) (by omega) (by omega) (by omega)
theorem takesF {f : mM} {M : tM} (hw : WF M) (hf : TF f M) {p d : Nat} (hp : p < M 0 2) (hd : d < 2 ^ 20) : q_X2_takes (nI p) (nI d) f = some (nI (tk M p d)) := by
  have hb := hw.1
  have w1 := hf.2.2.1 p hp
  have w3 := hw.2.2.1 p hp
  unfold q_X2_takes
  rw [gi_in _ (by omega) (by decide)]
  simp only [sq]
  rw [rem2 hd, cl_nI (by omega), w1.1, w1.2]
  by_cases c : M 5 p = 2
  · rw [if_pos (show nI (M 5 p) = 2 by rw [c]; rfl), nz, if_neg z20]
    by_cases c2 : d % 2 = 1
    · rw [if_pos (show nI (d % 2) = 1 by rw [c2]; rfl), if_neg z10, tk, if_pos ⟨c, c2⟩]; rfl
    · rw [if_neg (show ¬ nI (d % 2) = 1 by rw [show d % 2 = 0 by omega]; decide), if_pos trivial, gi_in _ (by omega) (by decide), tk, if_neg (fun h => c2 h.2)]
  · rw [if_neg (show ¬ nI (M 5 p) = 2 by rw [show M 5 p = 1 by omega]; decide), if_pos trivial, gi_in _ (by omega) (by decide), tk, if_neg (fun h => c h.1)]
theorem takenG {g : mM} {M : tM} (hw : WF M) (hg : TG g M) {p d : Nat} (hp : p < M 0 2) (hd : d < 2 ^ 20) : q_X10_takenBy (nI p) (nI d) g = some (nI (tk M p d)) := by
  have hb := hw.1
  have w1 := hg.2.2.1 p hp
  have w3 := hw.2.2.1 p hp
  unfold q_X10_takenBy
  rw [gi_in _ (by omega) (by decide)]
  simp only [sq]
  rw [gi_in _ (by omega) (by decide), rem2 hd, cl_nI (by omega), w1.1, w1.2]
  by_cases c : M 5 p = 2
  · rw [if_pos (show nI (M 5 p) = 2 by rw [c]; rfl), nz, if_neg z20]
    by_cases c2 : d % 2 = 1
    · rw [if_pos (show nI (d % 2) = 1 by rw [c2]; rfl), tk, if_pos ⟨c, c2⟩]; rfl
    · rw [if_neg (show ¬ nI (d % 2) = 1 by rw [show d % 2 = 0 by omega]; decide), tk, if_neg (fun h => c2 h.2)]
  · rw [if_neg (show ¬ nI (M 5 p) = 2 by rw [show M 5 p = 1 by omega]; decide), tk, if_neg (fun h => c h.1)]
theorem nI_inj {a b : Nat} (ha : a < 2 ^ 31) (hb : b < 2 ^ 31) : nI a = nI b ↔ a = b := nI_eq ha hb
theorem acr_lt {M : tM} (hw : WF M) {k x y : Nat} (hk : k < M 0 1) (h : acr M k x = some y) : y < M 0 0 := by
  have a := hw.2.1 k hk
  unfold acr at h
  by_cases c : M 1 k = x
  · rw [if_pos c] at h; have := Option.some.inj h; omega
  · rw [if_neg c] at h
    by_cases c2 : M 2 k = x
    · rw [if_pos c2] at h; have := Option.some.inj h; omega
    · rw [if_neg c2] at h; cases h
theorem acrossF {f : mM} {M : tM} (hw : WF M) (hf : TF f M) {k x B : Nat} (hk : k < M 0 1) (hx : x < M 0 0) (hB : B < 2 ^ 20) : q_X2_across (nI k) (nI x) (nI B) f = some (match acr M k x with | none => -1 | some y => if B.testBit y then -1 else nI y) := by
  have hb := hw.1
  have a := hw.2.1 k hk
  have e := hf.2.1 k hk
  unfold q_X2_across acr
  rw [gi_in _ (by omega) (by decide)]
  simp only [sq]
  rw [cl_nI (by omega), e.1, e.2]
  by_cases c : M 1 k = x
  · have c' : nI (M 1 k) = nI x := by rw [c]
    rw [if_pos c', if_pos c', if_pos c, gi_in _ (by omega) (by decide), gi_in _ (by omega) (by decide), if_neg z10, isIn_eq hB (by omega), bi_some]
    show _ = some (if B.testBit (M 2 k) = true then -1 else nI (M 2 k))
    by_cases h : B.testBit (M 2 k) = true
    · rw [if_pos h, if_pos h, if_neg z10]
    · rw [if_neg h, if_neg h, if_pos rfl]
  · have c' : ¬ nI (M 1 k) = nI x := fun h => c ((nI_inj (by omega) (by omega)).mp h)
    rw [if_neg c', if_neg c', if_neg c, gi_in _ (by omega) (by decide), gi_in _ (by omega) (by decide), gi_in _ (by omega) (by decide)]
    by_cases c2 : M 2 k = x
    · have c2' : nI (M 2 k) = nI x := by rw [c2]
      rw [if_pos c2', if_pos c2, if_neg z10, isIn_eq hB (by omega), bi_some]
      show _ = some (if B.testBit (M 1 k) = true then -1 else nI (M 1 k))
      by_cases h : B.testBit (M 1 k) = true
      · rw [if_pos h, if_pos h, if_neg z10]
      · rw [if_neg h, if_neg h, if_pos rfl]
    · have c2' : ¬ nI (M 2 k) = nI x := fun h => c2 ((nI_inj (by omega) (by omega)).mp h)
      rw [if_neg c2', if_neg c2, if_pos trivial]
theorem acrossG {g : mM} {M : tM} (hw : WF M) (hg : TG g M) {k x : Nat} (hk : k < M 0 1) (hx : x < M 0 0) : q_X10_across (nI k) (nI x) g = some (match acr M k x with | none => -9 | some y => nI y) := by
  have hb := hw.1
  have a := hw.2.1 k hk
  have e := hg.2.1 k hk
  unfold q_X10_across acr
  rw [gi_in _ (by omega) (by decide), gi_in _ (by omega) (by decide), gi_in _ (by omega) (by decide), gi_in _ (by omega) (by decide), cl_nI (by omega), e.1, e.2]
  by_cases c : M 1 k = x
  · have c' : nI (M 1 k) = nI x := by rw [c]
    rw [if_pos c', if_pos c]
  · have c' : ¬ nI (M 1 k) = nI x := fun h => c ((nI_inj (by omega) (by omega)).mp h)
    rw [if_neg c', if_neg c]
    by_cases c2 : M 2 k = x
    · have c2' : nI (M 2 k) = nI x := by rw [c2]
      rw [if_pos c2', if_pos c2]
    · have c2' : ¬ nI (M 2 k) = nI x := fun h => c2 ((nI_inj (by omega) (by omega)).mp h)
      rw [if_neg c2', if_neg c2]
