/-! item by item -/
abbrev okB (K n : Nat) (M : tM) : Prop := (K = 4 ∧ n = 0) ∨ (K = 5 ∧ M 0 1 < 9) ∨ (K = 6 ∧ M 0 2 < 4) ∨ (K = 7 ∧ M 0 3 < 3)
theorem canF {f g : mM} {M : tM} (hD : DR f g M) {K n : Nat} (hK : K ≤ 7) (hn : n ≤ 300) : q_X4_canBegin (nI K) (nI n) f = some (if okB K n M then 1 else 0) := by
  obtain ⟨hw, d1, -⟩ := hD
  have hw1 := hw.1
  unfold q_X4_canBegin
  rw [rz0, rz1]
  by_cases c4 : K = 4
  · subst c4
    rw [if_pos (show nI 4 = 4 from rfl)]
    by_cases c : n = 0
    · subst c
      rw [if_pos (show nI 0 = 0 from rfl), if_pos (Or.inl ⟨rfl, rfl⟩)]
    · rw [if_neg (nI_ne0 (by omega) (by omega)), if_neg (by omega)]
  rw [if_neg (show ¬ nI K = 4 from nI_ltN (b := 4) (by omega) (by decide) c4)]
  by_cases c5 : K = 5
  · subst c5
    rw [if_pos (show nI 5 = 5 from rfl), d1.2.1]
    by_cases c : M 0 1 < 9
    · rw [if_neg (show ¬ (9 : Int32) ≤ nI (M 0 1) from nI_ge (b := 9) c (by decide)), if_pos (Or.inr (Or.inl ⟨rfl, c⟩))]
    · rw [if_pos (show (9 : Int32) ≤ nI (M 0 1) from nI_le (a := 9) (by omega) (by omega)), if_neg (by omega)]
  rw [if_neg (show ¬ nI K = 5 from nI_ltN (b := 5) (by omega) (by decide) c5)]
  by_cases c6 : K = 6
  · subst c6
    rw [if_pos (show nI 6 = 6 from rfl), d1.2.2.1]
    by_cases c : M 0 2 < 4
    · rw [if_neg (show ¬ (4 : Int32) ≤ nI (M 0 2) from nI_ge (b := 4) c (by decide)), if_pos (Or.inr (Or.inr (Or.inl ⟨rfl, c⟩)))]
    · rw [if_pos (show (4 : Int32) ≤ nI (M 0 2) from nI_le (a := 4) (by omega) (by omega)), if_neg (by omega)]
  rw [if_neg (show ¬ nI K = 6 from nI_ltN (b := 6) (by omega) (by decide) c6)]
  by_cases c7 : K = 7
  · subst c7
    rw [if_pos (show nI 7 = 7 from rfl), d1.2.2.2]
    by_cases c : M 0 3 < 3
    · rw [if_neg (show ¬ (3 : Int32) ≤ nI (M 0 3) from nI_ge (b := 3) c (by decide)), if_pos (Or.inr (Or.inr (Or.inr ⟨rfl, c⟩)))]
    · rw [if_pos (show (3 : Int32) ≤ nI (M 0 3) from nI_le (a := 3) (by omega) (by omega)), if_neg (by omega)]
  rw [if_neg (show ¬ nI K = 7 from nI_ltN (b := 7) (by omega) (by decide) c7), if_neg (by omega)]
def mK (N n : Nat) (x1 : Int32) (f21 : mM) : Option (Int32 × mM) := sq (fun (v23 : Int32) => bi2 (q_X10_takes N v23 f21) (fun y25 f26 => sq (x1 + 1) (fun x1_28 => lp_X10_marsh_41 N n x1_28 f26))) (fun k24 => if (f21 0 5) = 3 then k24 1 else k24 0)
def mJ (N n : Nat) (x1 : Int32) (v14 : Int32) (f : mM) : Option (Int32 × mM) := bi2 (q_X10_takes N v14 f) (fun y16 f17 => bi (q_X10_isWell f17) (fun y19 => sq (fun (f21 : mM) => mK N n x1 f21) (fun k22 => if y19 = 0 then k22 f17 else bi (q_X10_readsItem N y16 f17) (fun f29 => k22 f29))))
def mW (N n : Nat) (x1 : Int32) (f : mM) (v12 : Int32) : Option (Int32 × mM) := if (f 0 5) = 1 then if v12 = 0 then mJ N n x1 0 f else mJ N n x1 1 f else mJ N n x1 0 f
def mH (N n : Nat) (x1 : Int32) (f : mM) : Option (Int32 × mM) := if (f 0 7) = 0 then if x1 = 0 then mW N n x1 f 1 else mW N n x1 f 0 else if (f 0 7) = 1 then if 9 ≤ (f 0 20) then mW N n x1 f 0 else mW N n x1 f 1 else if (f 0 7) = 2 then if 4 ≤ (f 0 21) then mW N n x1 f 0 else mW N n x1 f 1 else if 3 ≤ (f 0 22) then mW N n x1 f 0 else mW N n x1 f 1
theorem m41 (N n : Nat) (x1 : Int32) (f : mM) : lp_X10_marsh_41 N (n + 1) x1 f = bi (q_X10_isWell f) (fun y10 => if y10 = 0 then some (x1, f) else if (f 0 5) = 0 then some (x1, f) else mH N n x1 f) := rfl
theorem m41_dead {N n : Nat} {x1 : Int32} {g : mM} {s : Nat} (h8 : g 0 8 = nI s) (hs : s ≤ 300) : lp_X10_marsh_41 N (n + 1) x1 g = some (x1, g) := by
  rw [m41, deadG h8 hs, bi_some, if_pos rfl]
theorem mK_dead {N n : Nat} {x1 : Int32} {g : mM} {s : Nat} (h8 : g 0 8 = nI s) (hs : s ≤ 300) : mK N (n + 1) x1 g = some (x1 + 1, g) := by
  unfold mK
  simp only [sq]
  rw [takes_dead h8 hs, takes_dead h8 hs, bi2_some, ite_self, m41_dead h8 hs]
theorem mH_eq {N n : Nat} {f g : mM} {M : tM} (hD : DR f g M) {K s b v m : Nat} (hC : CG g K s b v) (hK : K ≤ 7) (hn : n ≤ 300) : mH N m (nI n) g = mJ N m (nI n) (if okB K n M then 1 else 0) g := by
  obtain ⟨hw, -, d2, -⟩ := hD
  have hw1 := hw.1
  unfold mH
  by_cases c : 4 ≤ K
  · have h5 : g 0 5 = 1 := by rw [hC.1]; exact (rk1 hK).mpr c
    have h7 := hC.2.2.2.2 c
    have w0 : mW N m (nI n) g 0 = mJ N m (nI n) 0 g := by unfold mW; rw [if_pos h5, if_pos rfl]
    have w1 : mW N m (nI n) g 1 = mJ N m (nI n) 1 g := by unfold mW; rw [if_pos h5, if_neg z10]
    rw [w0, w1, h7]
    rcases (show K = 4 ∨ K = 5 ∨ K = 6 ∨ K = 7 by omega) with rfl | rfl | rfl | rfl
    · rw [if_pos (show nI (4 - 4) = 0 from rfl)]
      by_cases q : n = 0
      · subst q
        rw [if_pos (show nI 0 = 0 from rfl), if_pos (Or.inl ⟨rfl, rfl⟩)]
      · rw [if_neg (nI_ne0 (by omega) (by omega)), if_neg (by omega)]
    · rw [if_neg (show ¬ nI (5 - 4) = 0 by decide), if_pos (show nI (5 - 4) = 1 from rfl), d2.2.1]
      by_cases q : M 0 1 < 9
      · rw [if_neg (show ¬ (9 : Int32) ≤ nI (M 0 1) from nI_ge (b := 9) q (by decide)), if_pos (Or.inr (Or.inl ⟨rfl, q⟩))]
      · rw [if_pos (show (9 : Int32) ≤ nI (M 0 1) from nI_le (a := 9) (by omega) (by omega)), if_neg (by omega)]
    · rw [if_neg (show ¬ nI (6 - 4) = 0 by decide), if_neg (show ¬ nI (6 - 4) = 1 by decide), if_pos (show nI (6 - 4) = 2 from rfl), d2.2.2.1]
      by_cases q : M 0 2 < 4
      · rw [if_neg (show ¬ (4 : Int32) ≤ nI (M 0 2) from nI_ge (b := 4) q (by decide)), if_pos (Or.inr (Or.inr (Or.inl ⟨rfl, q⟩)))]
      · rw [if_pos (show (4 : Int32) ≤ nI (M 0 2) from nI_le (a := 4) (by omega) (by omega)), if_neg (by omega)]
    · rw [if_neg (show ¬ nI (7 - 4) = 0 by decide), if_neg (show ¬ nI (7 - 4) = 1 by decide), if_neg (show ¬ nI (7 - 4) = 2 by decide), d2.2.2.2]
      by_cases q : M 0 3 < 3
      · rw [if_neg (show ¬ (3 : Int32) ≤ nI (M 0 3) from nI_ge (b := 3) q (by decide)), if_pos (Or.inr (Or.inr (Or.inr ⟨rfl, q⟩)))]
      · rw [if_pos (show (3 : Int32) ≤ nI (M 0 3) from nI_le (a := 3) (by omega) (by omega)), if_neg (by omega)]
  · have h5 : ¬ g 0 5 = 1 := by rw [hC.1]; exact fun h => c ((rk1 hK).mp h)
    have w0 : mW N m (nI n) g 0 = mJ N m (nI n) 0 g := by unfold mW; rw [if_neg h5]
    have w1 : mW N m (nI n) g 1 = mJ N m (nI n) 0 g := by unfold mW; rw [if_neg h5]
    rw [w0, w1, ite_self, ite_self, ite_self, ite_self, ite_self, ite_self, ite_self, if_neg (by omega)]
/-- at the head of the loop: both have read one token -/
def HD (L : Nat) (B : Nat → Nat) (f0 g0 f g : mM) (M : tM) (n K s b v : Nat) : Prop := TxF f L B ∧ TxG g L B ∧ g 0 8 = -1 ∧ DR f g M ∧ (n = 0 → M 0 1 = 0 ∧ M 0 2 = 0 ∧ M 0 3 = 0) ∧ (∀ c, c < 12 ∨ 22 < c → f c = f0 c) ∧ FG g0 g ∧ CF f K s b v ∧ CG g K s b v ∧ K ≤ 7 ∧ s ≤ L ∧ (K ≠ 1 → s < b ∧ b ≤ L) ∧ n ≤ s
theorem m_item {N L : Nat} {B : Nat → Nat} {i : Nat} {f g : mM} {M : tM} {K n : Nat} (hB : TxB L B) (hN : 1000 ≤ N) (hJ : J N L B i f g) (hD : DR f g M) (h0 : n = 0 → M 0 1 = 0 ∧ M 0 2 = 0 ∧ M 0 3 = 0) (ho : okB K n M) : IO N L B i K f g := by
  rcases ho with ⟨rfl, e⟩ | ⟨rfl, e⟩ | ⟨rfl, e⟩ | ⟨rfl, e⟩
  · exact it_marsh hB hN hJ hD (h0 e)
  · exact it_plank hB hN hJ hD e
  · exact it_person hB hN hJ hD e
  · exact it_errand hB hN hJ hD e
theorem m_step {N L : Nat} {B : Nat → Nat} {f0 g0 f g : mM} {M : tM} {n K s b v : Nat} (hB : TxB L B) (hN : 1000 ≤ N) (h : HD L B f0 g0 f g M n K s b v) (hK1 : K ≠ 1) (m r : Nat) : (∃ f' g' s' x', lp_X4_read_18 N (m + 1) (nI n) f = some (0, nI n, f') ∧ f' 12 3 = nI s' ∧ s' ≤ 300 ∧ (∀ c, c < 12 ∨ 22 < c → f' c = f0 c) ∧ lp_X10_marsh_41 N (r + 1 + 1) (nI n) g = some (x', g') ∧ g' 0 8 = nI s' ∧ FG g0 g') ∨ (∃ f' g' M' K' s' b' v', lp_X4_read_18 N (m + 1) (nI n) f = lp_X4_read_18 N m (nI (n + 1)) f' ∧ lp_X10_marsh_41 N (r + 1 + 1) (nI n) g = lp_X10_marsh_41 N (r + 1) (nI (n + 1)) g' ∧ HD L B f0 g0 f' g' M' (n + 1) K' s' b' v') := by
  obtain ⟨h1, h2, h3, h4, h5, h6, h7, h8, h9, h10, h11, h12, h13⟩ := h
  have hL := hB.1
  have hb := h12 hK1
  have t8 : tG 0 8 := Or.inl ⟨rfl, Or.inl ⟨by decide, by decide⟩⟩
  have eF : lp_X4_read_18 N (m + 1) (nI n) f = bi (some (if okB K n M then (1 : Int32) else 0)) (fun y7 => if y7 = 0 then some (0, nI n, f) else bi2 (q_X4_readNumbers N (nI K) f) (fun y9 f10 => if y9 = 0 then some (0, nI n, f10) else bi2 (q_X4_readSemicolon N f10) (fun y12 f13 => if y12 = 0 then some (0, nI n, f13) else bi (q_X4_addItem (nI K) f13) (fun f15 => bi (q_X4_readToken N f15) (fun f18 => lp_X4_read_18 N m (nI n + 1) f18))))) := by
    rw [lp_X4_read_18_s, if_neg (show ¬ (300 : Int32) ≤ nI n from nI_ge (b := 300) (by omega) (by decide)), h8.1, if_neg (show ¬ nI K = 1 from nI_ltN (b := 1) (by omega) (by decide) hK1)]
    simp only [sq]
    rw [canF h4 h10 (by omega)]
  have eG : lp_X10_marsh_41 N (r + 1 + 1) (nI n) g = mJ N (r + 1) (nI n) (if okB K n M then 1 else 0) g := by
    rw [m41, wellG h3, bi_some, if_neg z10, if_neg (by rw [h9.1]; exact fun q => hK1 ((rk0 h10).mp q)), mH_eq h4 h9 h10 (by omega)]
  rw [eF, eG]
  by_cases ho : okB K n M
  · rw [if_pos ho, bi_some, if_neg z10]
    have hK4 : 4 ≤ K := by omega
    obtain ⟨K1, s1, b1, v1, hT1⟩ := tok_ex hB (i := b) hb.2 hN
    obtain ⟨g1, e1, hA1, hC1⟩ := takes_ok h3 h2 h9 hK1 hT1
    have hg1 : TxG g1 L B := h2.mv (hA1.2 3 (by decide)) (hA1.1 1 (by decide))
    have h31 : g1 0 8 = -1 := by rw [hA1.2 8 (by decide)]; exact h3
    have hJ1 : J N L B b f g1 := ⟨h1, hg1, h31, h8.2.2.1 hK1, K1, s1, b1, v1, hT1, hC1⟩
    have hD1 : DR f g1 M := h4.mv (fun _ _ _ => rfl) hA1
    have eM : mJ N (r + 1) (nI n) 1 g = bi (q_X10_readsItem N (nI (K - 4)) g1) (fun f29 => mK N (r + 1) (nI n) f29) := by
      unfold mJ
      simp only [sq]
      rw [e1, bi2_some, wellG h31, bi_some, if_neg z10, h9.2.2.2.2 hK4]
    rw [eM]
    rcases m_item hB hN hJ1 hD1 h5 ho with ⟨f2, g2, b2, a1, a2, a3, a4, a5, a6, a7⟩ | ⟨f2, g2, s2, a1, a2, a3, a4, a5, a6, a7⟩
    · rw [a1, bi2_some, if_neg z10, a3, bi_some]
      obtain ⟨j1, j2, j3, j4, K2, s2, bb2, v2, j5, j6⟩ := a5
      obtain ⟨hTF, hTG, t1, t2, t3, t4, t5⟩ := id j5
      obtain ⟨f3, c1, c2, c3⟩ := hTF f2 j1 j4
      by_cases cs : K2 = 2
      · right
        subst cs
        have t4 := t4 (by decide)
        obtain ⟨K3, s3, b3, v3, hT3⟩ := tok_ex hB (i := bb2) t4.2 hN
        obtain ⟨g3, p1, hA3, hC3⟩ := takes_ok j3 j2 j6 (by decide) hT3
        obtain ⟨f4, M', q1, q2, q3⟩ := a7 f3 g3 c2 hA3
        have hf3 : TxF f3 L B := j1.mv (c2 1 (by decide)) (c2 2 (by decide))
        have hf4 : TxF f4 L B := hf3.mv (q2 1 (by decide)) (q2 2 (by decide))
        obtain ⟨f5, r1, r2, r3⟩ := hT3.1 f4 hf4 (by rw [q2 12 (by decide)]; exact c3.2.2.1 (by decide))
        obtain ⟨hTF3, hTG3, w1, w2, w3, w4, w5⟩ := id hT3
        refine ⟨f5, g3, M', K3, s3, b3, v3, ?_, ?_, hf4.mv (r2 1 (by decide)) (r2 2 (by decide)), j2.mv (hA3.2 3 (by decide)) (hA3.1 1 (by decide)), by rw [hA3.2 8 (by decide)]; exact j3, q3.mv (fun c d1 d2 => r2 c (by omega)) ⟨fun _ _ => rfl, fun _ _ => rfl⟩, fun h => absurd h (by omega), fun c hc => ?_, ((h7.ag hA1).trans a4).ag hA3, r3, hC3, w3, w2, w4, by omega⟩
        · unfold q_X4_readSemicolon
          rw [c1, bi_some, c3.1, if_pos (show nI 2 = 2 from rfl), rz1, bi2_some, if_neg z10, q1, bi_some, r1, bi_some, nI_1]
        · unfold mK
          simp only [sq]
          rw [j6.1, if_pos ((rk3 t3).mpr rfl), p1, bi2_some, nI_1]
        · rw [r2 c (by omega), q2 c (by omega), c2 c (by omega), a2 c (by omega) (by omega)]
          exact h6 c hc
      · left
        have k8 : st2 g2 0 8 (nI s2) 0 8 = nI s2 := st2_e
        refine ⟨f3, st2 g2 0 8 (nI s2), s2, nI n + 1, ?_, c3.2.1, by omega, fun c hc => by rw [c2 c (by omega), a2 c (by omega) (by omega)]; exact h6 c hc, ?_, k8, ((h7.ag hA1).trans a4).st t8⟩
        · unfold q_X4_readSemicolon
          rw [c1, bi_some, c3.1, if_neg (show ¬ nI K2 = 2 from nI_ltN (b := 2) (by omega) (by decide) cs), rz0, bi2_some, if_pos rfl]
        · unfold mK
          simp only [sq]
          rw [j6.1, if_neg (fun q => cs ((rk3 t3).mp q)), takes_bad j3 j6.2.1, bi2_some, m41_dead k8 (by omega)]
    · left
      rw [a1, bi2_some, if_pos rfl, a5, bi_some, mK_dead a7 a4]
      exact ⟨f2, g2, s2, nI n + 1, rfl, a3, a4, fun c hc => by rw [a2 c (by omega) (by omega)]; exact h6 c hc, rfl, a7, (h7.ag hA1).trans a6⟩
  · left
    have k8 : st2 g 0 8 (nI s) 0 8 = nI s := st2_e
    rw [if_neg ho, bi_some, if_pos rfl]
    refine ⟨f, st2 g 0 8 (nI s), s, nI n + 1, rfl, h8.2.1, by omega, h6, ?_, k8, h7.st t8⟩
    unfold mJ
    simp only [sq]
    rw [takes_bad h3 h9.2.1, bi2_some, deadG k8 (by omega), bi_some, if_pos rfl, mK_dead k8 (by omega)]
theorem m_loop {N L : Nat} {B : Nat → Nat} {f0 g0 : mM} (hB : TxB L B) (hN : 1000 ≤ N) : ∀ (d n : Nat) (f g : mM) (M : tM) (K s b v m r : Nat), n + d = 301 → d + 1 ≤ m → d + 2 ≤ r → HD L B f0 g0 f g M n K s b v → (∃ f' g' s' x x', lp_X4_read_18 N m (nI n) f = some (0, x, f') ∧ f' 12 3 = nI s' ∧ s' ≤ 300 ∧ (∀ c, c < 12 ∨ 22 < c → f' c = f0 c) ∧ lp_X10_marsh_41 N r (nI n) g = some (x', g') ∧ g' 0 8 = nI s' ∧ FG g0 g') ∨ (∃ f' g' M' n', lp_X4_read_18 N m (nI n) f = some (1, nI n', f') ∧ lp_X10_marsh_41 N r (nI n) g = some (nI n', g') ∧ n' ≤ 300 ∧ g' 0 8 = -1 ∧ DR f' g' M' ∧ (∀ c, c < 12 ∨ 22 < c → f' c = f0 c) ∧ FG g0 g') := by
  intro d
  have hL := hB.1
  induction d with
  | zero =>
    intro n f g M K s b v m r h1 h2 h2r h
    obtain ⟨-, -, -, -, -, -, -, -, -, -, h11, -, h13⟩ := h
    omega
  | succ d ih =>
    intro n f g M K s b v m r h1 h2 h2r h
    obtain ⟨m, rfl⟩ : ∃ j, m = j + 1 := ⟨m - 1, by omega⟩
    obtain ⟨r, rfl⟩ : ∃ j, r = j + 1 + 1 := ⟨r - 2, by omega⟩
    by_cases c : K = 1
    · right
      subst c
      obtain ⟨i1, i2, i3, i4, i5, i6, i7, i8, i9, i10, i11, i12, i13⟩ := h
      refine ⟨f, g, M, n, ?_, ?_, by omega, i3, i4, i6, i7⟩
      · rw [lp_X4_read_18_s, i8.1, if_pos (show nI 1 = 1 from rfl), ite_self]
      · rw [m41, wellG i3, bi_some, if_neg z10, if_pos (by rw [i9.1]; exact (rk0 (by decide)).mpr rfl)]
    · rcases m_step hB hN h c m r with ⟨f', g', s', x', e1, e2, e3, e4, e5, e6, e7⟩ | ⟨f', g', M', K', s', b', v', e1, e2, e3⟩
      · exact Or.inl ⟨f', g', s', _, x', e1, e2, e3, e4, e5, e6, e7⟩
      · rw [e1, e2]
        exact ih (n + 1) f' g' M' K' s' b' v' m (r + 1) (by omega) (by omega) (by omega) e3
