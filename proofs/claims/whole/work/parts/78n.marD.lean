/-! what reading leaves as it was -/
def tG (c j : Nat) : Prop := c = 0 ∧ (4 ≤ j ∧ j ≤ 8 ∨ 19 ≤ j ∧ j ≤ 22) ∨ (c = 2 ∨ c = 3 ∨ c = 4 ∨ c = 7) ∧ 9 ≤ j ∨ (c = 5 ∨ c = 6) ∧ 4 ≤ j
def FG (g g' : mM) : Prop := ∀ c j, ¬ tG c j → g' c j = g c j
theorem FG.rf {g : mM} : FG g g := fun _ _ _ => rfl
theorem FG.st {g h : mM} (hF : FG g h) {c k : Nat} {v : Int32} (ht : tG c k) : FG g (st2 h c k v) := by
  intro d j hn
  rw [st2_at, if_neg (fun e => hn (by rw [e.1, e.2]; exact ht))]
  exact hF d j hn
theorem FG.ag {g h h' : mM} (hF : FG g h) (hA : AG h h') : FG g h' := by
  intro c j hn
  by_cases e : c = 0
  · subst e
    have hj : j < 4 ∨ 8 ≤ j := by
      by_cases q : 4 ≤ j ∧ j ≤ 8
      · exact absurd (Or.inl ⟨rfl, Or.inl q⟩) hn
      · omega
    rw [hA.2 j hj]
    exact hF 0 j hn
  · rw [hA.1 c e]
    exact hF c j hn
theorem FG.trans {g h k : mM} (h1 : FG g h) (h2 : FG h k) : FG g k := fun c j hn => (h2 c j hn).trans (h1 c j hn)
/-! the reference's taking of tokens -/
theorem wellG {g : mM} (h : g 0 8 = -1) : q_X10_isWell g = some 1 := by
  unfold q_X10_isWell
  rw [h, if_neg (by decide), rz1]
theorem deadG {g : mM} {s : Nat} (h : g 0 8 = nI s) (hs : s ≤ 300) : q_X10_isWell g = some 0 := by
  unfold q_X10_isWell
  rw [h, if_pos (nI_pos' (by omega)), rz0]
theorem takes_ok {g : mM} {N L : Nat} {B : Nat → Nat} {K s b v K' s' b' v' : Nat} (h8 : g 0 8 = -1) (hg : TxG g L B) (hC : CG g K s b v) (hK : K ≠ 1) (hT : Tk N L B b K' s' b' v') : ∃ g', q_X10_takes N 1 g = some (g 0 7, g') ∧ AG g g' ∧ CG g' K' s' b' v' := by
  obtain ⟨g', e, hA, hC'⟩ := hT.2.1 g hg (hC.2.2.1 hK)
  refine ⟨g', ?_, hA, hC'⟩
  unfold q_X10_takes
  rw [wellG h8, bi_some, if_neg z10, if_neg z10]
  simp only [sq]
  rw [e, bi_some]
theorem takes_bad {g : mM} {N s : Nat} (h8 : g 0 8 = -1) (hs : g 0 6 = nI s) : q_X10_takes N 0 g = some (0, st2 g 0 8 (nI s)) := by
  unfold q_X10_takes
  rw [wellG h8, bi_some, if_neg z10, if_pos rfl, hs]
  rfl
theorem takes_dead {g : mM} {N s : Nat} (h8 : g 0 8 = nI s) (hs : s ≤ 300) (x : Int32) : q_X10_takes N x g = some (0, g) := by
  unfold q_X10_takes
  rw [deadG h8 hs, bi_some, if_pos rfl]
theorem number_dead {g : mM} {N s : Nat} (h8 : g 0 8 = nI s) (hs : s ≤ 300) (lo hi : Int32) : q_X10_number N lo hi g = some (0, g) := by
  unfold q_X10_number
  simp only [sq]
  rw [in_eq, bi_some, takes_dead h8 hs, takes_dead h8 hs, bi2_some, ite_self, ite_self]
theorem unlike_dead {g : mM} {N s : Nat} (h8 : g 0 8 = nI s) (hs : s ≤ 300) (x : Int32) : q_X10_unlike N x g = some (0, g) := by
  unfold q_X10_unlike
  simp only [sq]
  rw [in_eq, bi_some, takes_dead h8 hs, takes_dead h8 hs, bi2_some, ite_self, ite_self, ite_self]
theorem rk2 {K : Nat} (hK : K ≤ 7) : nI (rk K) = 2 ↔ K = 3 := by
  have h : ∀ K, K ≤ 7 → (nI (rk K) = 2 ↔ K = 3) := by decide +kernel
  exact h K hK
theorem rk3 {K : Nat} (hK : K ≤ 7) : nI (rk K) = 3 ↔ K = 2 := by
  have h : ∀ K, K ≤ 7 → (nI (rk K) = 3 ↔ K = 2) := by decide +kernel
  exact h K hK
theorem rk1 {K : Nat} (hK : K ≤ 7) : nI (rk K) = 1 ↔ 4 ≤ K := by
  have h : ∀ K, K ≤ 7 → (nI (rk K) = 1 ↔ 4 ≤ K) := by decide +kernel
  exact h K hK
theorem rk0 {K : Nat} (hK : K ≤ 7) : nI (rk K) = 0 ↔ K = 1 := by
  have h : ∀ K, K ≤ 7 → (nI (rk K) = 0 ↔ K = 1) := by decide +kernel
  exact h K hK
/-- the class stands at i; the reference has read the token there ahead -/
def J (N L : Nat) (B : Nat → Nat) (i : Nat) (f g : mM) : Prop := TxF f L B ∧ TxG g L B ∧ g 0 8 = -1 ∧ f 12 4 = nI i ∧ ∃ K s b v, Tk N L B i K s b v ∧ CG g K s b v
theorem CG.mv {g g' : mM} {K s b v : Nat} (h : CG g K s b v) (h4 : ∀ k, 4 ≤ k → k ≤ 7 → g' 0 k = g 0 k) : CG g' K s b v := by
  unfold CG at h ⊢
  rw [h4 4 (by decide) (by decide), h4 5 (by decide) (by decide), h4 6 (by decide) (by decide), h4 7 (by decide) (by decide)]
  exact h
theorem J.stA {N L : Nat} {B : Nat → Nat} {i : Nat} {f g : mM} (hJ : J N L B i f g) {c k : Nat} {x : Int32} (hc : 2 ≤ c) : J N L B i f (st2 g c k x) := by
  obtain ⟨h1, h2, h3, h4, K, s, b, v, h5, h6⟩ := hJ
  have e : st2 g c k x 0 = g 0 := st2_c (by omega)
  exact ⟨h1, h2.mv (by rw [e]) (st2_c (by omega)), by rw [e]; exact h3, h4, K, s, b, v, h5, h6.mv (fun k _ _ => by rw [e])⟩
theorem J.st0 {N L : Nat} {B : Nat → Nat} {i : Nat} {f g : mM} (hJ : J N L B i f g) {k : Nat} {x : Int32} (hk : 9 ≤ k) : J N L B i f (st2 g 0 k x) := by
  obtain ⟨h1, h2, h3, h4, K, s, b, v, h5, h6⟩ := hJ
  exact ⟨h1, h2.mv (st2_k (by omega)) (st2_c (by omega)), by rw [st2_k (by omega)]; exact h3, h4, K, s, b, v, h5, h6.mv (fun k _ _ => st2_k (by omega))⟩
theorem within_x {x : Nat} (hx : x < 3) : q_X9_isWithin (nI x) 0 2 = some 1 := by
  rw [within_eq, if_pos ⟨nI_pos' (by omega), show nI x ≤ 2 from nI_le (b := 2) (by omega) (by decide)⟩]
/-- the class reads one number: what comes of the token -/
theorem rdnF {f : mM} {N L : Nat} {B : Nat → Nat} {i K s b v : Nat} (hf : TxF f L B) (hi : f 12 4 = nI i) (hT : Tk N L B i K s b v) {x : Nat} (hx : x < 3) (lo hi' : Int32) : ∃ f1, (∀ c, c ≠ 12 → f1 c = f c) ∧ CF f1 K s b v ∧ (K = 3 ∧ lo ≤ nI v ∧ nI v ≤ hi' → q_X4_readNumber N (nI x) lo hi' f = some (1, st2 f1 22 x (nI v))) ∧ (¬ (K = 3 ∧ lo ≤ nI v ∧ nI v ≤ hi') → q_X4_readNumber N (nI x) lo hi' f = some (0, f1)) := by
  obtain ⟨f1, e, e1, e2⟩ := hT.1 f hf hi
  have hK := hT.2.2.2.2.1
  refine ⟨f1, e1, e2, fun h => ?_, fun h => ?_⟩
  · obtain ⟨rfl, h⟩ := h
    unfold q_X4_readNumber
    rw [e, bi_some, e2.1, if_pos (show nI 3 = 3 from rfl), e2.2.2.2 rfl, within_eq, if_pos h, bi_some, if_neg z10, within_x hx, bi_some, if_neg z10, gi_in _ hx (by decide), cl_nI (by omega)]
    exact rz1 _
  · unfold q_X4_readNumber
    rw [e, bi_some, e2.1]
    by_cases c : K = 3
    · subst c
      rw [if_pos (show nI 3 = 3 from rfl), e2.2.2.2 rfl, within_eq, if_neg (fun q => h ⟨rfl, q⟩), bi_some, if_pos rfl, rz0]
    · rw [if_neg (show ¬ nI K = 3 from nI_ltN (b := 3) (by omega) (by decide) c), rz0]
theorem num2 {N L : Nat} {B : Nat → Nat} {i : Nat} {f g : mM} (hB : TxB L B) (hN : 1000 ≤ N) (hJ : J N L B i f g) {x : Nat} (hx : x < 3) (lo hi : Int32) : (∃ f' g' b v, q_X4_readNumber N (nI x) lo hi f = some (1, f') ∧ (∀ c, c ≠ 12 → c ≠ 22 → f' c = f c) ∧ (∀ j, j ≠ x → f' 22 j = f 22 j) ∧ f' 22 x = nI v ∧ q_X10_number N lo hi g = some (nI v, g') ∧ AG g g' ∧ J N L B b f' g' ∧ i < b ∧ v ≤ 99 ∧ lo ≤ nI v ∧ nI v ≤ hi) ∨ (∃ f' s, q_X4_readNumber N (nI x) lo hi f = some (0, f') ∧ (∀ c, c ≠ 12 → f' c = f c) ∧ f' 12 3 = nI s ∧ s ≤ 300 ∧ q_X10_number N lo hi g = some (0, st2 g 0 8 (nI s))) := by
  obtain ⟨h1, h2, h3, h4, K, s, b, v, h5, h6⟩ := hJ
  have hL := hB.1
  obtain ⟨hTF, hTG, t1, t2, t3, t4, t5⟩ := id h5
  obtain ⟨f1, a1, a2, a3, a4⟩ := rdnF h1 h4 h5 hx lo hi
  by_cases c : K = 3 ∧ lo ≤ nI v ∧ nI v ≤ hi
  · left
    have t4 := t4 (by omega)
    obtain ⟨K', s', b', v', hT'⟩ := tok_ex hB (i := b) t4.2 hN
    obtain ⟨g', e, hA, hC'⟩ := takes_ok h3 h2 h6 (by omega) hT'
    have h7 : g 0 7 = nI v := h6.2.2.2.1 c.1
    refine ⟨st2 f1 22 x (nI v), g', b, v, a3 c, fun d d1 d2 => by rw [st2_c d2]; exact a1 d d1, fun j hj => by rw [st2_k hj, a1 22 (by decide)], st2_e, ?_, hA, ⟨h1.mv (by rw [st2_c (by decide)]; exact a1 1 (by decide)) (by rw [st2_c (by decide)]; exact a1 2 (by decide)), h2.mv (hA.2 3 (by decide)) (hA.1 1 (by decide)), by rw [hA.2 8 (by decide)]; exact h3, by rw [st2_c (by decide)]; exact a2.2.2.1 (by omega), K', s', b', v', hT', hC'⟩, by omega, t5 c.1, c.2⟩
    unfold q_X10_number
    simp only [sq]
    rw [h6.1, if_pos ((rk2 t3).mpr c.1), h7, in_eq, if_pos c.2, bi_some, if_neg z10, e, bi2_some, h7]
  · right
    refine ⟨f1, s, a4 c, a1, a2.2.1, by omega, ?_⟩
    unfold q_X10_number
    simp only [sq]
    rw [h6.1]
    by_cases c3 : K = 3
    · rw [if_pos ((rk2 t3).mpr c3), h6.2.2.2.1 c3, in_eq, if_neg (fun q => c ⟨c3, q⟩), bi_some, if_pos rfl, takes_bad h3 h6.2.1, bi2_some]
    · rw [if_neg (fun q => c3 ((rk2 t3).mp q)), takes_bad h3 h6.2.1, bi2_some]
theorem unl2 {N L : Nat} {B : Nat → Nat} {i : Nat} {f g : mM} (hB : TxB L B) (hN : 1000 ≤ N) (hJ : J N L B i f g) {x y w : Nat} (hx : x < 3) (hxy : y ≠ x) (hw : w ≤ 99) (hy : f 22 y = nI w) {P : Int32} (hP : g 0 19 = P) : (∃ f' g' b v, q_X4_readNumber N (nI x) 0 (P - 1) f = some (1, f') ∧ ¬ f' 22 x = f' 22 y ∧ (∀ c, c ≠ 12 → c ≠ 22 → f' c = f c) ∧ (∀ j, j ≠ x → f' 22 j = f 22 j) ∧ f' 22 x = nI v ∧ q_X10_unlike N (nI w) g = some (nI v, g') ∧ AG g g' ∧ J N L B b f' g' ∧ i < b ∧ v ≤ 99 ∧ 0 ≤ nI v ∧ nI v ≤ P - 1 ∧ v ≠ w) ∨ (∃ f' s, (∀ c, c ≠ 12 → c ≠ 22 → f' c = f c) ∧ f' 12 3 = nI s ∧ s ≤ 300 ∧ q_X10_unlike N (nI w) g = some (0, st2 g 0 8 (nI s)) ∧ (q_X4_readNumber N (nI x) 0 (P - 1) f = some (0, f') ∨ q_X4_readNumber N (nI x) 0 (P - 1) f = some (1, f') ∧ f' 22 x = f' 22 y)) := by
  obtain ⟨h1, h2, h3, h4, K, s, b, v, h5, h6⟩ := hJ
  have hL := hB.1
  obtain ⟨hTF, hTG, t1, t2, t3, t4, t5⟩ := id h5
  obtain ⟨f1, a1, a2, a3, a4⟩ := rdnF h1 h4 h5 hx 0 (P - 1)
  by_cases c : K = 3 ∧ 0 ≤ nI v ∧ nI v ≤ P - 1
  · have t4 := t4 (by omega)
    have t5 := t5 c.1
    have h7 : g 0 7 = nI v := h6.2.2.2.1 c.1
    have ex : st2 f1 22 x (nI v) 22 x = nI v := st2_e
    have ey : st2 f1 22 x (nI v) 22 y = nI w := by rw [st2_k hxy, a1 22 (by decide)]; exact hy
    by_cases c2 : v = w
    · right
      refine ⟨st2 f1 22 x (nI v), s, fun d d1 d2 => by rw [st2_c d2]; exact a1 d d1, by rw [st2_c (by decide)]; exact a2.2.1, by omega, ?_, Or.inr ⟨a3 c, by rw [ex, ey, c2]⟩⟩
      unfold q_X10_unlike
      simp only [sq]
      rw [hP, h6.1, if_pos ((rk2 t3).mpr c.1), h7, in_eq, if_pos c.2, bi_some, if_neg z10, if_pos (by rw [c2]), takes_bad h3 h6.2.1, bi2_some]
    · left
      obtain ⟨K', s', b', v', hT'⟩ := tok_ex hB (i := b) t4.2 hN
      obtain ⟨g', e, hA, hC'⟩ := takes_ok h3 h2 h6 (by omega) hT'
      have hne : ¬ nI v = nI w := nI_ltN (by omega) (by omega) c2
      refine ⟨st2 f1 22 x (nI v), g', b, v, a3 c, by rw [ex, ey]; exact hne, fun d d1 d2 => by rw [st2_c d2]; exact a1 d d1, fun j hj => by rw [st2_k hj, a1 22 (by decide)], st2_e, ?_, hA, ⟨h1.mv (by rw [st2_c (by decide)]; exact a1 1 (by decide)) (by rw [st2_c (by decide)]; exact a1 2 (by decide)), h2.mv (hA.2 3 (by decide)) (hA.1 1 (by decide)), by rw [hA.2 8 (by decide)]; exact h3, by rw [st2_c (by decide)]; exact a2.2.2.1 (by omega), K', s', b', v', hT', hC'⟩, by omega, t5, c.2.1, c.2.2, c2⟩
      unfold q_X10_unlike
      simp only [sq]
      rw [hP, h6.1, if_pos ((rk2 t3).mpr c.1), h7, in_eq, if_pos c.2, bi_some, if_neg z10, if_neg hne, e, bi2_some, h7]
  · right
    refine ⟨f1, s, fun d d1 _ => a1 d d1, a2.2.1, by omega, ?_, Or.inl (a4 c)⟩
    unfold q_X10_unlike
    simp only [sq]
    rw [hP, h6.1]
    by_cases c3 : K = 3
    · rw [if_pos ((rk2 t3).mpr c3), h6.2.2.2.1 c3, in_eq, if_neg (fun q => c ⟨c3, q⟩), bi_some, if_pos rfl, takes_bad h3 h6.2.1, bi2_some]
    · rw [if_neg (fun q => c3 ((rk2 t3).mp q)), takes_bad h3 h6.2.1, bi2_some]
/-! the draft -/
def DR (f g : mM) (M : tM) : Prop := WF M ∧ (f 13 0 = nI (M 0 0) ∧ f 13 1 = nI (M 0 1) ∧ f 13 2 = nI (M 0 2) ∧ f 13 3 = nI (M 0 3)) ∧ (g 0 19 = nI (M 0 0) ∧ g 0 20 = nI (M 0 1) ∧ g 0 21 = nI (M 0 2) ∧ g 0 22 = nI (M 0 3)) ∧ (∀ k, k < M 0 1 → M 3 k ≤ 9 ∧ f 14 k = nI (M 1 k) ∧ f 15 k = nI (M 2 k) ∧ f 16 k = nI (M 3 k) ∧ g 2 (9 + k) = nI (M 1 k) ∧ g 3 (9 + k) = nI (M 2 k) ∧ g 4 (9 + k) = nI (M 3 k)) ∧ (∀ p, p < M 0 2 → f 17 p = nI (M 4 p) ∧ f 18 p = nI (M 5 p) ∧ g 5 (4 + p) = nI (M 4 p) ∧ g 6 (4 + p) = nI (M 5 p)) ∧ ∀ e, e < M 0 3 → f 19 e = nI (M 6 e) ∧ f 20 e = nI (M 7 e) ∧ f 21 e = nI (M 8 e) ∧ g 7 (9 + 3 * e) = nI (M 6 e) ∧ g 7 (9 + 3 * e + 1) = nI (M 7 e) ∧ g 7 (9 + 3 * e + 2) = nI (M 8 e)
theorem DR.mv {f g f' g' : mM} {M : tM} (h : DR f g M) (hf : ∀ c, 13 ≤ c → c ≤ 21 → f' c = f c) (hA : AG g g') : DR f' g' M := by
  unfold DR at h ⊢
  rw [hf 13 (by decide) (by decide), hf 14 (by decide) (by decide), hf 15 (by decide) (by decide), hf 16 (by decide) (by decide), hf 17 (by decide) (by decide), hf 18 (by decide) (by decide), hf 19 (by decide) (by decide), hf 20 (by decide) (by decide), hf 21 (by decide) (by decide), hA.1 2 (by decide), hA.1 3 (by decide), hA.1 4 (by decide), hA.1 5 (by decide), hA.1 6 (by decide), hA.1 7 (by decide), hA.2 19 (by decide), hA.2 20 (by decide), hA.2 21 (by decide), hA.2 22 (by decide)]
  exact h
/-- an item's numbers: both go on, or both have the fault at one place -/
def IO (N L : Nat) (B : Nat → Nat) (i K : Nat) (f g : mM) : Prop := (∃ f' g' b, q_X4_readNumbers N (nI K) f = some (1, f') ∧ (∀ c, c ≠ 12 → c ≠ 22 → f' c = f c) ∧ q_X10_readsItem N (nI (K - 4)) g = some g' ∧ FG g g' ∧ J N L B b f' g' ∧ i < b ∧ ∀ f2 g2 : mM, (∀ c, c ≠ 12 → f2 c = f' c) → AG g' g2 → ∃ f3 M', q_X4_addItem (nI K) f2 = some f3 ∧ (∀ c, c < 13 ∨ 21 < c → f3 c = f2 c) ∧ DR f3 g2 M') ∨ (∃ f' g' s, q_X4_readNumbers N (nI K) f = some (0, f') ∧ (∀ c, c ≠ 12 → c ≠ 22 → f' c = f c) ∧ f' 12 3 = nI s ∧ s ≤ 300 ∧ q_X10_readsItem N (nI (K - 4)) g = some g' ∧ FG g g' ∧ g' 0 8 = nI s)
