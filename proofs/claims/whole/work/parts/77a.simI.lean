/-! what belongs together, of one marsh -/
def IM (M : tM) (f : mM) (t : Int64) (g : mM) (u : Int64) : Prop := t = u ∧ IT f g ∧ WF M ∧ TF f M ∧ TG g M ∧ NR (M 0 1) f g 23 8 0 ∧ IK (M 0 1) f g 0 28 0 ∧ IK (M 0 1) f g 1 32 50
theorem Inv.im {f : mM} {t : Int64} {g : mM} {u : Int64} (h : Inv f t g u) : ∃ M, IM M f t g u := by
  obtain ⟨h0, h1, M, h2, h3, h4, h5, h6, h7⟩ := h
  exact ⟨M, h0, h1, h2, h3, h4, h5, h6, h7⟩
theorem IM.inv {M : tM} {f : mM} {t : Int64} {g : mM} {u : Int64} (h : IM M f t g u) : Inv f t g u := by
  obtain ⟨h0, h1, h2, h3, h4, h5, h6, h7⟩ := h
  exact ⟨h0, h1, M, h2, h3, h4, h5, h6, h7⟩
theorem IM.scr {M : tM} {f : mM} {t : Int64} {g : mM} {u : Int64} {f' g' : mM} (h : IM M f t g u) (hf : ∀ c, c ≤ 11 ∨ (23 ≤ c ∧ c ≤ 36) → f' c = f c) (hg0 : ∀ k, k = 3 ∨ (15 ≤ k ∧ k ≤ 18) → g' 0 k = g 0 k) (hg : ∀ c, 1 ≤ c → c ≤ 10 → g' c = g c) : IM M f' t g' u := by
  obtain ⟨h0, h1, hw, h3, h4, h5, h6, h7⟩ := h
  exact ⟨h0, h1.go (by rw [hf _ (by omega)]) (hf _ (by omega)) (hg0 _ (by omega)) (hg _ (by omega) (by omega)), hw, h3.go (fun c a b => hf c (by omega)), h4.go (fun c a b => hg c (by omega) (by omega)) (fun k a b => hg0 k (by omega)), h5.go (by rw [hf _ (by omega)]) (hf _ (by omega)) (hf _ (by omega)) (hf _ (by omega)) (hg _ (by omega) (by omega)), h6.go (by rw [hf _ (by omega)]) (hf _ (by omega)) (hf _ (by omega)) (hf _ (by omega)) (hg _ (by omega) (by omega)) (by rw [hf _ (by omega)]) (by rw [hg _ (by omega) (by omega)]), h7.go (by rw [hf _ (by omega)]) (hf _ (by omega)) (hf _ (by omega)) (hf _ (by omega)) (hg _ (by omega) (by omega)) (by rw [hf _ (by omega)]) (by rw [hg _ (by omega) (by omega)])⟩
theorem IM.now {M : tM} {f : mM} {t : Int64} {g : mM} {u : Int64} {S : Nat → Nat} {w : Nat} {f' g' : mM} (hI : IM M f t g u) (hf1 : ∀ c, c ≠ 23 → c ≠ 24 → c ≠ 25 → c ≠ 26 → f' c = f c) (hg1 : ∀ c, c ≠ 8 → g' c = g c) (hn : NS (M 0 1) f' g' 23 8 0 S w) : IM M f' t g' u := by
  obtain ⟨h0, h1, hw, hf, hg, -, hk0, hk1⟩ := hI
  exact ⟨h0, h1.go (by rw [hf1 _ (by decide) (by decide) (by decide) (by decide)]) (hf1 _ (by decide) (by decide) (by decide) (by decide)) (by rw [hg1 _ (by decide)]) (hg1 _ (by decide)), hw, hf.go (fun c h _ => hf1 c (by omega) (by omega) (by omega) (by omega)), hg.go (fun c h _ => hg1 c (by omega)) (fun k h _ => by rw [hg1 _ (by decide)]), ⟨S, w, hn⟩, hk0.go (by rw [hf1 _ (by decide) (by decide) (by decide) (by decide)]) (hf1 _ (by decide) (by decide) (by decide) (by decide)) (hf1 _ (by decide) (by decide) (by decide) (by decide)) (hf1 _ (by decide) (by decide) (by decide) (by decide)) (hg1 _ (by decide)) (by rw [hf1 _ (by decide) (by decide) (by decide) (by decide)]) (by rw [hg1 _ (by decide)]), hk1.go (by rw [hf1 _ (by decide) (by decide) (by decide) (by decide)]) (hf1 _ (by decide) (by decide) (by decide) (by decide)) (hf1 _ (by decide) (by decide) (by decide) (by decide)) (hf1 _ (by decide) (by decide) (by decide) (by decide)) (hg1 _ (by decide)) (by rw [hf1 _ (by decide) (by decide) (by decide) (by decide)]) (by rw [hg1 _ (by decide)])⟩
/-! a way's planks: each bears, no two are one -/
def OKw (M : tM) (S : Nat → Nat) (p : Nat) : Nat → Nat → Nat → List Nat → Prop
  | _, _, _, [] => True
  | d, x, B, k :: q => k < M 0 1 ∧ ∃ y, stp M S p d x B k = some y ∧ OKw M S p (d + 1) y (B ||| 2 ^ y) q
theorem ffl_ok {stq : Nat → Option Nat} {sub : Nat → Option (List Nat)} : ∀ c k q, ffl stq sub c k = some q → ∃ j y r, k ≤ j ∧ j < k + c ∧ stq j = some y ∧ sub y = some r ∧ q = j :: r := by
  intro c
  induction c with
  | zero => intro k q h; cases h
  | succ c ih =>
    intro k q h
    unfold ffl at h
    cases hs : stq k with
    | none =>
      rw [hs] at h
      obtain ⟨j, y, r, h1, h2, h3⟩ := ih _ _ h
      exact ⟨j, y, r, by omega, by omega, h3⟩
    | some y =>
      rw [hs] at h
      cases hy : sub y with
      | none =>
        simp only [hy] at h
        obtain ⟨j, y, r, h1, h2, h3⟩ := ih _ _ h
        exact ⟨j, y, r, by omega, by omega, h3⟩
      | some r =>
        simp only [hy] at h
        exact ⟨k, y, r, by omega, by omega, hs, hy, (Option.some.inj h).symm⟩
theorem FF_ok {M : tM} {S : Nat → Nat} {p b : Nat} : ∀ l d x B q, FF M S p b l d x B = some q → OKw M S p d x B q := by
  intro l
  induction l with
  | zero =>
    intro d x B q h
    unfold FF at h
    by_cases c : x = b
    · rw [if_pos c] at h; rw [← Option.some.inj h]; exact trivial
    · rw [if_neg c] at h; cases h
  | succ l ih =>
    intro d x B q h
    unfold FF at h
    by_cases c : x = b
    · rw [if_pos c] at h; cases h
    · rw [if_neg c] at h
      obtain ⟨j, y, r, h1, h2, h3, h4, h5⟩ := ffl_ok _ _ _ h
      rw [h5]
      exact ⟨by omega, y, h3, ih _ _ _ _ h4⟩
theorem stp_some {M : tM} {S : Nat → Nat} {p d x B k y : Nat} (h : stp M S p d x B k = some y) : acr M k x = some y ∧ B.testBit y = false ∧ canG M S p k d = true := by
  rw [stp_nx] at h
  cases hn : nx M x B k with
  | none => rw [hn] at h; cases h
  | some z =>
    rw [hn] at h
    simp only [] at h
    by_cases c : canG M S p k d = true
    · rw [if_pos c] at h
      have := Option.some.inj h
      subst this
      exact ⟨(nx_some hn).1, (nx_some hn).2, c⟩
    · rw [if_neg c] at h; cases h
theorem acr_ends {M : tM} {k x y : Nat} (h : acr M k x = some y) : (M 1 k = x ∧ M 2 k = y) ∨ (M 2 k = x ∧ M 1 k = y) := by
  unfold acr at h
  by_cases c : M 1 k = x
  · rw [if_pos c] at h; exact Or.inl ⟨c, Option.some.inj h⟩
  · rw [if_neg c] at h
    by_cases c2 : M 2 k = x
    · rw [if_pos c2] at h; exact Or.inr ⟨c2, Option.some.inj h⟩
    · rw [if_neg c2] at h; cases h
theorem OKw_far {M : tM} {S : Nat → Nat} {p : Nat} : ∀ (q : List Nat) d x B z, OKw M S p d x B q → B.testBit z = true → z ≠ x → ∀ k, k ∈ q → M 1 k ≠ z ∧ M 2 k ≠ z := by
  intro q
  induction q with
  | nil => intro d x B z _ _ _ k hk; cases hk
  | cons j q ih =>
    intro d x B z h hz hzx k hk
    obtain ⟨h1, y, h2, h3⟩ := h
    obtain ⟨a1, a2, -⟩ := stp_some h2
    have hyz : z ≠ y := fun e => by rw [e, a2] at hz; cases hz
    rcases List.mem_cons.mp hk with rfl | hk
    · rcases acr_ends a1 with ⟨e1, e2⟩ | ⟨e1, e2⟩ <;> omega
    · refine ih (d + 1) y (B ||| 2 ^ y) z h3 ?_ hyz k hk
      rw [Nat.testBit_or, hz, Bool.true_or]
theorem OKw_new {M : tM} {S : Nat → Nat} {p d x B k : Nat} {q : List Nat} (h : OKw M S p d x B (k :: q)) (hx : B.testBit x = true) : k ∉ q := by
  obtain ⟨h1, y, h2, h3⟩ := h
  obtain ⟨a1, a2, -⟩ := stp_some h2
  intro hk
  have := OKw_far q (d + 1) y (B ||| 2 ^ y) x h3 (by rw [Nat.testBit_or, hx, Bool.true_or]) (fun e => by rw [e, a2] at hx; cases hx) k hk
  rcases acr_ends a1 with ⟨e1, e2⟩ | ⟨e1, e2⟩ <;> omega
set_option maxHeartbeats 1000000 in
theorem walk_both {M : tM} {S : Nat → Nat} {p l N : Nat} (hw : WF M) (hp : p < M 0 2) (hl : l ≤ 5) : ∀ (q : List Nat) (i x B acc n : Nat) (f g : mM) (S' : Nat → Nat) (w : Nat), i + q.length = l → q.length < n → (∀ j, j < q.length → f 38 (i + j) = nI (q.getD j 0) ∧ g 13 (i + j) = nI (q.getD j 0)) → TF f M → TG g M → NS (M 0 1) f g 23 8 0 S' w → OKw M S p i x B q → B.testBit x = true → (∀ k, k ∈ q → S' k = S k) → ∃ acc' f' g' S2 w2, lp_X8_walkFound_5 N (nI p) (nI l) n (nI acc) (nI i) f = some (nI acc', f') ∧ lp_X10_goesBy_5 N (nI p) (nI l) n (nI acc) (nI i) g = some (nI acc', g') ∧ NS (M 0 1) f' g' 23 8 0 S2 w2 ∧ (∀ c, c ≠ 23 → c ≠ 24 → c ≠ 25 → c ≠ 26 → f' c = f c) ∧ (∀ c, c ≠ 8 → g' c = g c) := by
  have hb := hw.1
  intro q
  induction q with
  | nil =>
    intro i x B acc n f g S' w hi hn _ hf hg hns _ _ _
    obtain ⟨n, rfl⟩ : ∃ j, n = j + 1 := ⟨n - 1, by simp at hn; omega⟩
    have hi : i = l := by simpa using hi
    refine ⟨acc, f, g, S', w, ?_, ?_, hns, fun _ _ _ _ _ => rfl, fun _ _ => rfl⟩
    · rw [lp_X8_walkFound_5_s, hi, if_pos (Int32.le_refl _)]
    · rw [lp_X10_goesBy_5_s, hi, if_pos (Int32.le_refl _)]
  | cons k q ih =>
    intro i x B acc n f g S' w hi hn hfg hf hg hns hok hx hsame
    obtain ⟨n, rfl⟩ : ∃ j, n = j + 1 := ⟨n - 1, by simp at hn; omega⟩
    rw [List.length_cons] at hi hn
    have hnew := OKw_new hok hx
    obtain ⟨h1, y, h2, h3⟩ := hok
    obtain ⟨a1, a2, a3⟩ := stp_some h2
    have a3 : 1 ≤ S k ∧ tk M p i ≤ S k := by simpa [canG] using a3
    have hk := hsame k (List.mem_cons_self ..)
    have hf38 := hfg 0 (by simp)
    rw [Nat.add_zero, show (k :: q).getD 0 0 = k from rfl] at hf38
    obtain ⟨b, f', g', w', t1, t2, t3, t4, t5, t6⟩ := take_both hns h1 (by omega) (v := tk M p i) (by rw [hk]; exact a3.2) (by rw [hk]; exact a3.1) (nI p)
    have hf' : TF f' M := hf.go (fun c a b => t4 c (by omega) (by omega) (by omega) (by omega))
    have hg' : TG g' M := hg.go (fun c a b => t5 c (by omega)) (fun j a b => by rw [t5 0 (by decide)])
    have hfg' : ∀ j, j < q.length → f' 38 (i + 1 + j) = nI (q.getD j 0) ∧ g' 13 (i + 1 + j) = nI (q.getD j 0) := by
      intro j hj
      have := hfg (j + 1) (by rw [List.length_cons]; omega)
      rw [t4 38 (by decide) (by decide) (by decide) (by decide), t5 13 (by decide), show i + 1 + j = i + (j + 1) by omega]
      exact this
    have hsame' : ∀ j, j ∈ q → upN S' k (S' k - tk M p i) j = S j := by
      intro j hj
      rw [upN_n (show j ≠ k from fun e => hnew (by rw [← e]; exact hj))]
      exact hsame j (List.mem_cons_of_mem _ hj)
    have hx' : (B ||| 2 ^ y).testBit y = true := by rw [Nat.testBit_or, Nat.testBit_two_pow]; simp
    have cF := lp_X8_walkFound_5_s N (nI p) (nI l) n (nI acc) (nI i) f
    have cG := lp_X10_goesBy_5_s N (nI p) (nI l) n (nI acc) (nI i) g
    rw [if_neg (nI_ge (by omega) (by omega)), if_neg (show ¬ (5 : Int32) ≤ nI i from nI_ge (b := 5) (by omega) (by decide)), gi_in _ (by omega) (by decide), takesF hw hf hp (by omega), bi_some, cl_nI (by omega), hf38.1, t1, bi2_some] at cF
    rw [if_neg (nI_ge (by omega) (by omega)), gi_in _ (by omega) (by decide), takenG hw hg hp (by omega), bi_some, cl_nI (by omega), hf38.2, t2, bi2_some] at cG
    simp only [sq] at cF cG
    rw [nI_1, nI_1] at cF
    rw [nI_1] at cG
    rcases t6 with rfl | rfl
    · rw [if_pos rfl] at cF
      rw [show nI acc + 0 = nI acc from nI_add acc 0] at cG
      obtain ⟨acc', f2, g2, S2, w2, r1, r2, r3, r4, r5⟩ := ih (i + 1) y (B ||| 2 ^ y) acc n f' g' _ w' (by omega) (by omega) hfg' hf' hg' t3 h3 hx' hsame'
      exact ⟨acc', f2, g2, S2, w2, cF.trans r1, cG.trans r2, r3, fun c c1 c2 c3 c4 => (r4 c c1 c2 c3 c4).trans (t4 c c1 c2 c3 c4), fun c hc => (r5 c hc).trans (t5 c hc)⟩
    · rw [if_neg z10] at cF
      rw [nI_1] at cG
      obtain ⟨acc', f2, g2, S2, w2, r1, r2, r3, r4, r5⟩ := ih (i + 1) y (B ||| 2 ^ y) (acc + 1) n f' g' _ w' (by omega) (by omega) hfg' hf' hg' t3 h3 hx' hsame'
      exact ⟨acc', f2, g2, S2, w2, cF.trans r1, cG.trans r2, r3, fun c c1 c2 c3 c4 => (r4 c c1 c2 c3 c4).trans (t4 c c1 c2 c3 c4), fun c hc => (r5 c hc).trans (t5 c hc)⟩
theorem go_both {M : tM} {f : mM} {t : Int64} {g : mM} {u : Int64} {p a b N : Nat} (hI : IM M f t g u) (hp : p < M 0 2) (ha : a < M 0 0) (hbn : b < M 0 0) (hab : a ≠ b) (hN : 1000000 ≤ N) : (∃ f' g', q_X8_findFirst N (nI p) (nI a) (nI b) f = some (0, f') ∧ q_X10_firstWay N (nI p) (nI a) (nI b) g = some (-9, g') ∧ IM M f' t g' u) ∨ ∃ l f1 g1 c f2 g2, 1 ≤ l ∧ l ≤ 5 ∧ q_X8_findFirst N (nI p) (nI a) (nI b) f = some (nI l, f1) ∧ q_X10_firstWay N (nI p) (nI a) (nI b) g = some (nI l, g1) ∧ (∀ i, i < l → f1 38 i = g1 13 i) ∧ IM M f1 t g1 u ∧ q_X8_walkFound N (nI p) (nI l) f1 = some (c, f2) ∧ q_X10_goesBy N (nI p) (nI l) g1 = some (c, g2) ∧ IM M f2 t g2 u := by
  obtain ⟨h0, h1, hw, hf, hg, ⟨S, w, hn⟩, hk0, hk1⟩ := id hI
  have hb := hw.1
  have n8 : ∀ k, k < 9 → f 24 k = nI (S k) := fun k hk => (hn.2.2.2.1 k hk).1
  have n9 : ∀ k, k < 9 → g 8 k = nI (S k) := fun k hk => by have := (hn.2.2.2.1 k hk).2; rwa [Nat.zero_add] at this
  obtain ⟨f1, e1, e2, e3⟩ := findF (N := N) hw hp ha hbn hn.1 hf n8 (by omega)
  obtain ⟨g1, d1, d2, d3⟩ := firstG (N := N) hw hp ha hbn hab hn.1 hg n9 hN
  have hI1 : IM M f1 t g1 u := hI.scr (fun c hc => e2 c (by omega)) (fun k _ => by rw [d2 0 (by decide) (by decide) (by decide)]) (fun c h1 h2 => d2 c (by omega) (by omega) (by omega))
  cases hW : FW M S p a b (M 0 0 - 1) 1 with
  | none =>
    rw [hW] at e1 d1
    exact Or.inl ⟨f1, g1, e1, d1, hI1⟩
  | some r =>
    rw [hW] at e1 d1
    obtain ⟨w1, w2, w3, -⟩ := FW_some _ _ _ hW
    have hlen := FF_len _ _ _ _ _ w3
    have hn1 : NS (M 0 1) f1 g1 23 8 0 S w := hn.go (by rw [e2 _ (by decide)]) (e2 _ (by decide)) (e2 _ (by decide)) (e2 _ (by decide)) (d2 _ (by decide) (by decide) (by decide))
    obtain ⟨c, f2, g2, S2, w2', r1, r2, r3, r4, r5⟩ := walk_both (N := N) (l := r.1) (S := S) hw hp (by omega) r.2 0 a (2 ^ a) 0 N f1 g1 S w (by omega) (by omega) (fun j hj => by rw [Nat.zero_add]; exact ⟨e3 r hW j (by omega), d3 r hW j (by omega)⟩) hI1.2.2.2.1 hI1.2.2.2.2.1 hn1 (FF_ok _ _ _ _ _ w3) (by rw [Nat.testBit_two_pow]; simp) (fun _ _ => rfl)
    refine Or.inr ⟨r.1, f1, g1, nI c, f2, g2, w1, by omega, e1, d1, fun i hi => by rw [e3 r hW i hi, d3 r hW i hi], hI1, ?_, ?_, hI1.now r4 r5 r3⟩
    · unfold q_X8_walkFound
      rw [show lp_X8_walkFound_5 N (nI p) (nI r.1) N 0 0 f1 = _ from r1, bi2_some]
    · unfold q_X10_goesBy
      rw [show lp_X10_goesBy_5 N (nI p) (nI r.1) N 0 0 g1 = _ from r2, bi2_some]
theorem placesF {f g : mM} {M : tM} (hw : WF M) (hf : TF f M) (hg : TG g M) (x y : Int32) : ∃ v : Int32, q_X2_areTwoPlaces x y f = some v ∧ q_X10_arePlaces x y g = some v ∧ (v = 0 ∨ v = 1 ∧ ∃ a b, a < M 0 0 ∧ b < M 0 0 ∧ a ≠ b ∧ x = nI a ∧ y = nI b) := by
  have hb := hw.1
  obtain ⟨v, e1, e2, e3⟩ := idx_F x (n := M 0 0) (by omega)
  obtain ⟨v2, e4, e5, e6⟩ := idx_F y (n := M 0 0) (by omega)
  unfold q_X2_areTwoPlaces q_X10_arePlaces
  rw [hf.1.1, hg.1.1, e2, bi_some, rz0, rz1]
  rw [rz0, rz1] at e1 e4
  rcases e3 with rfl | ⟨rfl, a, ha, rfl⟩
  · refine ⟨0, ?_, by rw [if_pos rfl], Or.inl rfl⟩
    by_cases c : x < 0
    · rw [if_pos c]
    · rw [if_neg c] at e1 ⊢
      by_cases c2 : nI (M 0 0) ≤ x
      · rw [if_pos c2]
      · rw [if_neg c2] at e1
        exact absurd (Option.some.inj e1) z10
  · rw [if_neg (nI_pos (by omega)), if_neg (nI_ge ha (by omega)), if_neg z10, e5, bi_some]
    rcases e6 with rfl | ⟨rfl, b, hbb, rfl⟩
    · refine ⟨0, ?_, by rw [if_pos rfl], Or.inl rfl⟩
      by_cases c : y < 0
      · rw [if_pos c]
      · rw [if_neg c] at e4 ⊢
        by_cases c2 : nI (M 0 0) ≤ y
        · rw [if_pos c2]
        · rw [if_neg c2] at e4
          exact absurd (Option.some.inj e4) z10
    · rw [if_neg (nI_pos (by omega)), if_neg (nI_ge hbb (by omega)), if_neg z10]
      by_cases c : a = b
      · rw [if_pos (show nI a = nI b by rw [c])]
        exact ⟨0, rfl, rfl, Or.inl rfl⟩
      · rw [if_neg (fun h => c ((nI_inj (by omega) (by omega)).mp h))]
        exact ⟨1, rfl, rfl, Or.inr ⟨rfl, a, b, ha, hbb, c, rfl, rfl⟩⟩
