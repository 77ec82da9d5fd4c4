/-! type -/
theorem byte_both (y : Int64) : ∃ c : Nat, c < 256 ∧ Int64.toInt32 (y &&& 255) = nI c ∧ vp_nar .byte (Int8.toInt32 (Int32.toInt8 (Int64.toInt32 y))) = (nI c).toInt8.toInt32 := by
  refine ⟨y.toBitVec.toNat % 256, Nat.mod_lt _ (by decide), ?_, ?_⟩
  · apply Int32.toBitVec_inj.mp
    apply BitVec.eq_of_toNat_eq
    rw [pk_tn (by have := Nat.mod_lt y.toBitVec.toNat (show 0 < 256 by decide); omega)]
    simp only [Int64.toBitVec_toInt32, Int64.toBitVec_and]
    rw [BitVec.signExtend_eq_setWidth_of_le _ (by decide), BitVec.toNat_setWidth, BitVec.toNat_and, show (255 : Int64).toBitVec.toNat = 2 ^ 8 - 1 from by decide, Nat.and_two_pow_sub_one_eq_mod]
    omega
  · rw [vp_nar_byte]
    have key : Int32.toInt8 (Int64.toInt32 y) = (nI (y.toBitVec.toNat % 256)).toInt8 := by
      apply Int8.toBitVec_inj.mp
      apply BitVec.eq_of_toNat_eq
      simp only [Int64.toBitVec_toInt32, Int32.toBitVec_toInt8]
      rw [BitVec.signExtend_eq_setWidth_of_le _ (by decide), BitVec.signExtend_eq_setWidth_of_le _ (by decide), BitVec.signExtend_eq_setWidth_of_le _ (by decide), BitVec.toNat_setWidth, BitVec.toNat_setWidth, BitVec.toNat_setWidth, pk_tn (by have := Nat.mod_lt y.toBitVec.toNat (show 0 < 256 by decide); omega)]
      omega
    rw [key]
    have := vp_nar_byte ((nI (y.toBitVec.toNat % 256)).toInt8.toInt32)
    rw [pk_vb] at this
    exact this.symm
/-- the loop's own number: from m - 1 down to -1 -/
def xd (m k : Nat) : Int32 := nI (m - k) - 1
theorem xd_lt {m k : Nat} (h : k < m) (hm : m ≤ 8) : xd m k = nI (m - k - 1) := by
  unfold xd
  exact pk_sub (a := m - k) (b := 1) (by omega)
theorem xd_step {m k : Nat} (h : k < m) (hm : m ≤ 8) : xd m k + (-1) = xd m (k + 1) := by
  rw [xd_lt h hm]
  unfold xd
  rw [show m - (k + 1) = m - k - 1 by omega, Int32.sub_eq_add_neg]
theorem addF {f : mM} {L m : Nat} (x1 : Int64) (hm : m ≤ 8) (hL : L + m ≤ 300) (h : f 1 1 = nI L) {N : Nat} (hN : 100 ≤ N) : ∃ f' : mM, lp_X7_add_5 N x1 N (xd m 0) f = some f' ∧ f' 1 1 = nI (L + m) ∧ (∀ c, c ≠ 1 → c ≠ 2 → f' c = f c) ∧ (∀ j, j < L → f' 2 j = f 2 j) ∧ ∀ k, k < m → f' 2 (L + k) = vp_nar .byte (Int8.toInt32 (Int32.toInt8 (Int64.toInt32 (x1 >>> (Int32.toInt64 (8 * xd m k) &&& 63))))) := by
  obtain ⟨s', e, hs⟩ := for_ex (σ := mM) (fun n k s => lp_X7_add_5 N x1 n (xd m k) s) m (fun k s => s 1 1 = nI (L + k) ∧ (∀ c, c ≠ 1 → c ≠ 2 → s c = f c) ∧ (∀ j, j < L → s 2 j = f 2 j) ∧ ∀ i, i < k → s 2 (L + i) = vp_nar .byte (Int8.toInt32 (Int32.toInt8 (Int64.toInt32 (x1 >>> (Int32.toInt64 (8 * xd m i) &&& 63)))))) (fun s => some s)
    (fun n k s hk hI => by
      obtain ⟨i1, i2, i3, i4⟩ := hI
      refine ⟨st2 (st2 s 2 (L + k) (vp_nar .byte (Int8.toInt32 (Int32.toInt8 (Int64.toInt32 (x1 >>> (Int32.toInt64 (8 * xd m k) &&& 63))))))) 1 1 (nI (L + (k + 1))), ?_, st2_e, fun c h1 h2 => by rw [st2_c h1, st2_c h2]; exact i2 c h1 h2, fun j hj => ?_, fun i hi => ?_⟩
      · show lp_X7_add_5 N x1 (n + 1) (xd m k) s = _
        rw [lp_X7_add_5_s, if_neg (show ¬ xd m k < 0 by rw [xd_lt hk hm]; exact nI_pos (by omega)), i1, if_neg (show ¬ (300 : Int32) ≤ nI (L + k) from nI_ge (b := 300) (by omega) (by decide)), gi_in _ (by omega) (by decide)]
        simp only [sq]
        rw [cl_nI (by omega), st2_c (d := 1) (by decide), i1, nI_1, xd_step hk hm, Nat.add_assoc]
      · rw [st2_c (by decide), st2_k (by omega)]; exact i3 j hj
      · rw [st2_c (by decide)]
        by_cases hik : i = k
        · subst hik; exact st2_e
        · rw [st2_k (by omega)]; exact i4 i (by omega))
    (fun n s hI => by
      show lp_X7_add_5 N x1 (n + 1) (xd m m) s = _
      rw [lp_X7_add_5_s, if_pos (show xd m m < 0 by unfold xd; rw [Nat.sub_self]; decide)])
    m 0 f N (by omega) ⟨h, fun _ _ _ => rfl, fun _ _ => rfl, fun i hi => absurd hi (by omega)⟩ (by omega)
  exact ⟨s', e, hs.1, hs.2.1, hs.2.2.1, hs.2.2.2⟩
theorem typeG {g : mM} {L m : Nat} (x1 : Int64) (hm : m ≤ 8) (hL : L + m ≤ 300) (h : g 0 3 = nI L) {N : Nat} (hN : 100 ≤ N) : ∃ g' : mM, lp_X10_type_37 N x1 N (xd m 0) g = some g' ∧ g' 0 3 = nI (L + m) ∧ (∀ k, k ≠ 3 → g' 0 k = g 0 k) ∧ (∀ c, c ≠ 0 → c ≠ 1 → g' c = g c) ∧ (∀ j, j < L → g' 1 j = g 1 j) ∧ ∀ k, k < m → g' 1 (L + k) = Int64.toInt32 ((x1 >>> (Int32.toInt64 (8 * xd m k) &&& 63)) &&& 255) := by
  obtain ⟨s', e, hs⟩ := for_ex (σ := mM) (fun n k s => lp_X10_type_37 N x1 n (xd m k) s) m (fun k s => s 0 3 = nI (L + k) ∧ (∀ j, j ≠ 3 → s 0 j = g 0 j) ∧ (∀ c, c ≠ 0 → c ≠ 1 → s c = g c) ∧ (∀ j, j < L → s 1 j = g 1 j) ∧ ∀ i, i < k → s 1 (L + i) = Int64.toInt32 ((x1 >>> (Int32.toInt64 (8 * xd m i) &&& 63)) &&& 255)) (fun s => some s)
    (fun n k s hk hI => by
      obtain ⟨i1, i0, i2, i3, i4⟩ := hI
      refine ⟨st2 (st2 s 1 (L + k) (Int64.toInt32 ((x1 >>> (Int32.toInt64 (8 * xd m k) &&& 63)) &&& 255))) 0 3 (nI (L + (k + 1))), ?_, st2_e, fun j hj => by rw [st2_k hj, st2_c (by decide)]; exact i0 j hj, fun c h1 h2 => by rw [st2_c h1, st2_c h2]; exact i2 c h1 h2, fun j hj => ?_, fun i hi => ?_⟩
      · show lp_X10_type_37 N x1 (n + 1) (xd m k) s = _
        rw [lp_X10_type_37_s, if_neg (show ¬ xd m k < 0 by rw [xd_lt hk hm]; exact nI_pos (by omega)), i1, gi_in _ (by omega) (by decide)]
        simp only [sq]
        rw [cl_nI (by omega), st2_c (d := 0) (by decide), i1, nI_1, xd_step hk hm, Nat.add_assoc]
      · rw [st2_c (by decide), st2_k (by omega)]; exact i3 j hj
      · rw [st2_c (by decide)]
        by_cases hik : i = k
        · subst hik; exact st2_e
        · rw [st2_k (by omega)]; exact i4 i (by omega))
    (fun n s hI => by
      show lp_X10_type_37 N x1 (n + 1) (xd m m) s = _
      rw [lp_X10_type_37_s, if_pos (show xd m m < 0 by unfold xd; rw [Nat.sub_self]; decide)])
    m 0 g N (by omega) ⟨h, fun _ _ => rfl, fun _ _ _ => rfl, fun _ _ => rfl, fun i hi => absurd hi (by omega)⟩ (by omega)
  exact ⟨s', e, hs.1, hs.2.1, hs.2.2.1, hs.2.2.2.1, hs.2.2.2.2⟩
theorem sim_type {N : Nat} (hN : 1000 ≤ N) : S_type Inv N := by
  intro f t g u hI x1 x3
  have hI2 := hI.thr 0
  obtain ⟨h0, ⟨L, hL, t1, t2, t3⟩, M, hw, hf, hg, hn, hk0, hk1⟩ := id hI2
  unfold q_X9_type q_X10_type
  simp only [sq]
  rw [within_eq, in_eq, bi_some, bi_some]
  by_cases c : (1 : Int32) ≤ x3 ∧ x3 ≤ 8
  · rw [if_pos c, if_neg z10, if_neg z10]
    obtain ⟨m, hm, rfl⟩ : ∃ m : Nat, m ≤ 8 ∧ x3 = nI m := nI_of2 (M := 8) rfl (by
      have := c.1
      rw [i_le, show (1 : Int32).toInt = 1 from rfl] at this
      rw [i_lt, i_0]
      omega) c.2
    have hm1 : 1 ≤ m := (nI_leI (a := 1) (by omega) (by omega)).mp c.1
    unfold q_X7_hasRoomFor
    rw [t1, t2, nI_add, rz0, rz1]
    have hsub : (300 : Int32) - nI L = nI (300 - L) := pk_sub (a := 300) hL
    rw [hsub]
    by_cases hr : L + m ≤ 300
    · obtain ⟨f', a1, a2, a3, a4, a5⟩ := addF (f := f) x1 hm hr t1 (N := N) (by omega)
      obtain ⟨g', b1, b2, b3, b4, b5, b6⟩ := typeG (g := st2 g 0 0 0) x1 hm hr t2 (N := N) (by omega)
      have ex : nI m - 1 = xd m 0 := rfl
      rw [if_neg (nI_nlt (by omega) (by omega)), bi_some, if_neg z10, if_pos (show nI (L + m) ≤ 300 from nI_le (b := 300) hr (by decide)), ex, b1, bi_some, b2]
      unfold q_X7_add
      simp only [sq]
      rw [ex, a1, bi_some, bi_some, a2]
      refine ⟨_, _, _, rfl, rfl, h0, ⟨L + m, hr, a2, b2, fun j hj => ?_⟩, M, hw, hf.go (fun c h h' => a3 c (by omega) (by omega)), hg.go (fun c h h' => b4 c (by omega) (by omega)) (fun k h h' => b3 k (by omega)), hn.go (by rw [a3 _ (by decide) (by decide)]) (a3 _ (by decide) (by decide)) (a3 _ (by decide) (by decide)) (a3 _ (by decide) (by decide)) (b4 _ (by decide) (by decide)), hk0.go (by rw [a3 _ (by decide) (by decide)]) (a3 _ (by decide) (by decide)) (a3 _ (by decide) (by decide)) (a3 _ (by decide) (by decide)) (b4 _ (by decide) (by decide)) (by rw [a3 _ (by decide) (by decide)]) (by rw [b4 _ (by decide) (by decide)]), hk1.go (by rw [a3 _ (by decide) (by decide)]) (a3 _ (by decide) (by decide)) (a3 _ (by decide) (by decide)) (a3 _ (by decide) (by decide)) (b4 _ (by decide) (by decide)) (by rw [a3 _ (by decide) (by decide)]) (by rw [b4 _ (by decide) (by decide)])⟩
      by_cases hj2 : j < L
      · rw [a4 j hj2, b5 j hj2]
        exact t3 j hj2
      · obtain ⟨i, rfl⟩ : ∃ i, j = L + i := ⟨j - L, by omega⟩
        rw [a5 i (by omega), b6 i (by omega)]
        exact byte_both _
    · rw [if_pos (nI_lt (by omega) (by omega)), bi_some, if_pos rfl, if_neg (show ¬ nI (L + m) ≤ 300 from nI_ge (a := 300) (by omega) (by omega))]
      exact ⟨-3, _, _, rfl, rfl, hI2⟩
  · rw [if_neg c, if_pos rfl, if_pos rfl]
    exact ⟨-1, _, _, rfl, rfl, hI2⟩
