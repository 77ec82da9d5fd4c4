/-! all errands: what can be left -/
def OKm (M : tM) (p b : Nat) : List Nat → Nat → Nat → Nat → (Nat → Nat) → (Nat → Nat) → Prop
  | [], _, x, _, S, S2 => x = b ∧ S2 = S
  | k :: q, d, x, B, S, S2 => x ≠ b ∧ k < M 0 1 ∧ ∃ y, stp M S p d x B k = some y ∧ OKm M p b q (d + 1) y (B ||| 2 ^ y) (upN S k (S k - tk M p d)) S2
/-- v is left when the errands from e on are run -/
def RUNm (M : tM) : Nat → Nat → (Nat → Nat) → Nat → Prop
  | 0, _, S, v => v = sm S 9
  | c + 1, e, S, v => ∃ q S2, OKm M (M 6 e) (M 8 e) q 0 (M 7 e) (2 ^ M 7 e) S S2 ∧ RUNm M c (e + 1) S2 v
def Mx (o o' : Option Nat) (X : Nat → Prop) : Prop := (∀ v, X v → ∃ w, o' = some w ∧ v ≤ w) ∧ (∀ v, o = some v → ∃ w, o' = some w ∧ v ≤ w) ∧ (o' = o ∨ ∃ w, X w ∧ o' = some w)
theorem Mx.comp {o o1 o2 : Option Nat} {X Y Z : Nat → Prop} (h1 : Mx o o1 X) (h2 : Mx o1 o2 Y) (hz : ∀ v, Z v ↔ X v ∨ Y v) : Mx o o2 Z := by
  refine ⟨fun v hv => ?_, fun v hv => ?_, ?_⟩
  · rcases (hz v).mp hv with h | h
    · obtain ⟨w, e1, e2⟩ := h1.1 v h
      obtain ⟨w2, e3, e4⟩ := h2.2.1 w e1
      exact ⟨w2, e3, by omega⟩
    · exact h2.1 v h
  · obtain ⟨w, e1, e2⟩ := h1.2.1 v hv
    obtain ⟨w2, e3, e4⟩ := h2.2.1 w e1
    exact ⟨w2, e3, by omega⟩
  · rcases h2.2.2 with h | ⟨w, h3, h4⟩
    · rw [h]
      rcases h1.2.2 with h5 | ⟨w, h6, h7⟩
      · exact Or.inl h5
      · exact Or.inr ⟨w, (hz w).mpr (Or.inl h6), h7⟩
    · exact Or.inr ⟨w, (hz w).mpr (Or.inr h3), h4⟩
theorem Mx.nil {o : Option Nat} {X : Nat → Prop} (h : ∀ v, ¬ X v) : Mx o o X := ⟨fun v hv => absurd hv (h v), fun v hv => ⟨v, hv, Nat.le_refl _⟩, Or.inl rfl⟩
theorem Mx.congr {o o' : Option Nat} {X Y : Nat → Prop} (h : Mx o o' X) (hz : ∀ v, Y v ↔ X v) : Mx o o' Y := ⟨fun v hv => h.1 v ((hz v).mp hv), h.2.1, by
  rcases h.2.2 with h | ⟨w, h1, h2⟩
  · exact Or.inl h
  · exact Or.inr ⟨w, (hz w).mpr h1, h2⟩⟩
theorem Mx.uniq {o o' : Option Nat} {X : Nat → Prop} (h : Mx none o X) (h' : Mx none o' X) : o = o' := by
  cases o with
  | none =>
    cases o' with
    | none => rfl
    | some v =>
      rcases h'.2.2 with h1 | ⟨w, h1, h2⟩
      · cases h1
      · obtain ⟨w2, h3, h4⟩ := h.1 w h1
        cases h3
  | some v =>
    have hv : X v := by
      rcases h.2.2 with h1 | ⟨w, h1, h2⟩
      · cases h1
      · rw [Option.some.inj h2]; exact h1
    obtain ⟨w, h3, h4⟩ := h'.1 v hv
    rw [h3]
    have hw : X w := by
      rcases h'.2.2 with h1 | ⟨w', h1, h2⟩
      · rw [h3] at h1; cases h1
      · rw [h3] at h2; rw [Option.some.inj h2]; exact h1
    obtain ⟨w2, h5, h6⟩ := h.1 w hw
    have := Option.some.inj h5
    have : v = w := by omega
    rw [this]
theorem upN_le {S : Nat → Nat} {k t : Nat} : ∀ j, upN S k (S k - t) j ≤ S j := by
  intro j
  by_cases c : j = k
  · subst c; rw [upN_e]; omega
  · rw [upN_n c]; exact Nat.le_refl _
theorem OKm_le {M : tM} {p b : Nat} : ∀ (q : List Nat) d x B (S S2 : Nat → Nat), OKm M p b q d x B S S2 → ∀ j, S2 j ≤ S j := by
  intro q
  induction q with
  | nil => intro d x B S S2 h j; rw [h.2]; exact Nat.le_refl _
  | cons k q ih =>
    intro d x B S S2 h j
    obtain ⟨-, -, y, -, h⟩ := h
    exact Nat.le_trans (ih _ _ _ _ _ h j) (upN_le j)
theorem RUNm_le {M : tM} : ∀ c e (S : Nat → Nat) v, RUNm M c e S v → v ≤ sm S 9 := by
  intro c
  induction c with
  | zero => intro e S v h; rw [show v = sm S 9 from h]; exact Nat.le_refl _
  | succ c ih =>
    intro e S v h
    obtain ⟨q, S2, h1, h2⟩ := h
    exact Nat.le_trans (ih _ _ _ h2) (sm_mono (OKm_le _ _ _ _ _ _ h1) 9)
/-- from here on an errand's way, then the errands behind -/
def GLm (M : tM) (e c d x B : Nat) (S : Nat → Nat) (v : Nat) : Prop := ∃ q S2, OKm M (M 6 e) (M 8 e) q d x B S S2 ∧ RUNm M c (e + 1) S2 v
def GLk (M : tM) (e c d x B : Nat) (S : Nat → Nat) (k : Nat) (v : Nat) : Prop := ∃ j y, k ≤ j ∧ j < M 0 1 ∧ stp M S (M 6 e) d x B j = some y ∧ GLm M e c (d + 1) y (B ||| 2 ^ y) (upN S j (S j - tk M (M 6 e) d)) v
theorem GLm_step {M : tM} {e c d x B : Nat} {S : Nat → Nat} (hx : x ≠ M 8 e) (v : Nat) : GLm M e c d x B S v ↔ GLk M e c d x B S 0 v := by
  constructor
  · intro ⟨q, S2, h1, h2⟩
    cases q with
    | nil => exact absurd h1.1 hx
    | cons k q =>
      obtain ⟨-, h3, y, h4, h5⟩ := h1
      exact ⟨k, y, by omega, h3, h4, q, S2, h5, h2⟩
  · intro ⟨j, y, h1, h2, h3, q, S2, h4, h5⟩
    exact ⟨j :: q, S2, ⟨hx, h2, y, h3, h4⟩, h5⟩
theorem GLm_goal {M : tM} {e c d x B : Nat} {S : Nat → Nat} (hx : x = M 8 e) (v : Nat) : GLm M e c d x B S v ↔ RUNm M c (e + 1) S v := by
  constructor
  · intro ⟨q, S2, h1, h2⟩
    cases q with
    | nil => rw [h1.2] at h2; exact h2
    | cons k q => exact absurd hx h1.1
  · intro h
    exact ⟨[], S, ⟨hx, rfl⟩, h⟩
theorem GLk_cons {M : tM} {e c d x B : Nat} {S : Nat → Nat} {k : Nat} (hk : k < M 0 1) (v : Nat) : GLk M e c d x B S k v ↔ (∃ y, stp M S (M 6 e) d x B k = some y ∧ GLm M e c (d + 1) y (B ||| 2 ^ y) (upN S k (S k - tk M (M 6 e) d)) v) ∨ GLk M e c d x B S (k + 1) v := by
  constructor
  · intro ⟨j, y, h1, h2, h3, h4⟩
    by_cases c : j = k
    · subst c; exact Or.inl ⟨y, h3, h4⟩
    · exact Or.inr ⟨j, y, by omega, h2, h3, h4⟩
  · intro h
    rcases h with ⟨y, h3, h4⟩ | ⟨j, y, h1, h2, h3, h4⟩
    · exact ⟨k, y, Nat.le_refl _, hk, h3, h4⟩
    · exact ⟨j, y, by omega, h2, h3, h4⟩
theorem GLm_le {M : tM} {e c d x B : Nat} {S : Nat → Nat} {v : Nat} (h : GLm M e c d x B S v) : v ≤ sm S 9 := by
  obtain ⟨q, S2, h1, h2⟩ := h
  exact Nat.le_trans (RUNm_le _ _ _ _ h2) (sm_mono (OKm_le _ _ _ _ _ _ h1) 9)
theorem sm_up {S : Nat → Nat} {k t : Nat} (h : t ≤ S k) : ∀ n, sm (upN S k (S k - t)) n + (if k < n then t else 0) = sm S n := by
  intro n
  induction n with
  | zero => rfl
  | succ n ih =>
    show sm (upN S k (S k - t)) n + upN S k (S k - t) n + _ = sm S n + S n
    by_cases c : n = k
    · subst c
      rw [if_neg (by omega)] at ih
      rw [upN_e, if_pos (by omega)]
      omega
    · rw [upN_n c]
      by_cases c2 : k < n
      · rw [if_pos c2] at ih
        rw [if_pos (by omega)]
        omega
      · rw [if_neg c2] at ih
        rw [if_neg (by omega)]
        omega
set_option maxHeartbeats 4000000 in
theorem goOnF {M : tM} (hw : WF M) {N : Nat} (hN : 1000 ≤ N) : ∀ D e x d B (S : Nat → Nat) (f : mM) (o : Option Nat), e < M 0 3 → d ≤ 5 → 6 * (M 0 3 - 1 - e) + (6 - d) ≤ D → x < M 0 0 → B < 64 → cn (fun z => B.testBit z) (M 0 0) = d + 1 → (∀ k, k < 9 → S k ≤ 9) → TF f M → (∀ k, k < 9 → f 24 k = nI (S k)) → f 39 2 = cI o → (∀ v, o = some v → v ≤ 81) → ∃ f' o', r_X5_goOn N D (nI e) (nI x) (nI d) (nI B) (nI (sm S 9)) f = some f' ∧ (∀ c, c ≠ 24 → c ≠ 39 → f' c = f c) ∧ (∀ k, k < 9 → f' 24 k = nI (S k)) ∧ f' 39 2 = cI o' ∧ (∀ v, o' = some v → v ≤ 81) ∧ Mx o o' (GLm M e (M 0 3 - 1 - e) d x B S) := by
  have hb := hw.1
  intro D
  induction D with
  | zero => intro e x d B S f o he hd hD; omega
  | succ D ih =>
    intro e x d B S f o he hd hD hx hB hcn hS hf h24 h39 ho
    have h81 : sm S 9 ≤ 81 := by have := sm_le hS 9 (by omega); omega
    have a1 := hf.2.2.2 e he
    have a3 := hw.2.2.2 e he
    show ∃ f' o', q_X5_goOn (r_X5_goOn N D) N (nI e) (nI x) (nI d) (nI B) (nI (sm S 9)) f = some f' ∧ _
    unfold q_X5_goOn
    by_cases cl : ∃ w, o = some w ∧ sm S 9 ≤ w
    · obtain ⟨w, e1, e2⟩ := cl
      have := ho w e1
      rw [h39, e1, show cI (some w) = nI w from rfl, if_neg (nI_nlt e2 (by omega))]
      refine ⟨f, some w, rfl, fun _ _ _ => rfl, h24, by rw [h39, e1], fun v hv => by have := Option.some.inj hv; omega, fun v hv => ⟨w, rfl, ?_⟩, fun v hv => ⟨v, hv, Nat.le_refl _⟩, Or.inl rfl⟩
      have := GLm_le hv
      omega
    · have hlt : f 39 2 < nI (sm S 9) := by
        rw [h39]
        cases o with
        | none => rw [show cI none = -9 from rfl, i_lt, nI_toInt (by omega), show (-9 : Int32).toInt = -9 from rfl]; omega
        | some w =>
          have : ¬ sm S 9 ≤ w := fun h => cl ⟨w, rfl, h⟩
          exact nI_lt (by omega) (by omega)
      rw [if_pos hlt, gi_in _ (by omega) (by decide), cl_nI (by omega), a1.2.2, a1.1]
      by_cases cx : x = M 8 e
      · rw [if_pos (show nI x = nI (M 8 e) by rw [cx]), nI_1]
        unfold q_X5_beginErrand
        rw [hf.1.2.2.2]
        by_cases ce : e + 1 < M 0 3
        · have b1 := hf.2.2.2 (e + 1) ce
          have b3 := hw.2.2.2 (e + 1) ce
          rw [if_pos (nI_lt ce (by omega)), gi_in _ (by omega) (by decide), gi_in _ (by omega) (by decide), cl_nI (by omega), b1.2.1, sh_l (by omega)]
          obtain ⟨f', o', r1, r2, r3, r4, r5, r6⟩ := ih (e + 1) (M 7 (e + 1)) 0 (2 ^ M 7 (e + 1)) S f o ce (by omega) (by omega) b3.2.1 (Nat.pow_lt_pow_right (n := 6) (by omega) (by omega)) (cn_one b3.2.1) hS hf h24 h39 ho
          rw [show r_X5_goOn N D (nI (e + 1)) (nI (M 7 (e + 1))) 0 (nI (2 ^ M 7 (e + 1))) (nI (sm S 9)) f = some f' from r1, bi_some, bi_some]
          refine ⟨f', o', rfl, r2, r3, r4, r5, r6.congr (fun v => ?_)⟩
          rw [GLm_goal cx, show M 0 3 - 1 - e = (M 0 3 - 1 - (e + 1)) + 1 by omega]
          rfl
        · rw [if_neg (nI_nlt (by omega) (by omega))]
          simp only [sq]
          rw [bi_some, if_pos hlt]
          refine ⟨_, some (sm S 9), rfl, fun c h1 h2 => st2_c h2, fun k hk => by rw [st2_c (by decide)]; exact h24 k hk, st2_e, fun v hv => by have := Option.some.inj hv; omega, fun v hv => ⟨sm S 9, rfl, GLm_le hv⟩, fun v hv => ⟨sm S 9, rfl, ?_⟩, Or.inr ⟨sm S 9, ?_, rfl⟩⟩
          · by_cases h : sm S 9 ≤ v
            · exact absurd ⟨v, hv, h⟩ cl
            · omega
          · rw [GLm_goal cx, show M 0 3 - 1 - e = 0 by omega]
            rfl
      · rw [if_neg (fun h => cx ((nI_inj (by omega) (by omega)).mp h))]
        by_cases cd : d < 5
        · rw [if_pos (show nI d < 5 from nI_lt (b := 5) cd (by decide)), gi_in _ (by omega) (by decide), takesF hw hf a3.1 (by omega), bi_some]
          have lp : ∀ c k n (f1 : mM) (o1 : Option Nat), k + c = M 0 1 → c < n → (∀ j, j ≠ 24 → j ≠ 39 → f1 j = f j) → (∀ j, j < 9 → f1 24 j = nI (S j)) → f1 39 2 = cI o1 → (∀ v, o1 = some v → v ≤ 81) → ∃ f' o', lp_X5_goOn_61 (r_X5_goOn N D) N (nI e) (nI x) (nI d) (nI B) (nI (sm S 9)) (nI (tk M (M 6 e) d)) n (nI k) f1 = some f' ∧ (∀ c, c ≠ 24 → c ≠ 39 → f' c = f c) ∧ (∀ k, k < 9 → f' 24 k = nI (S k)) ∧ f' 39 2 = cI o' ∧ (∀ v, o' = some v → v ≤ 81) ∧ Mx o1 o' (GLk M e (M 0 3 - 1 - e) d x B S k) := by
            intro c
            induction c with
            | zero =>
              intro k n f1 o1 hk hn g1 g2 g3 g4
              obtain ⟨n, rfl⟩ : ∃ j, n = j + 1 := ⟨n - 1, by omega⟩
              refine ⟨f1, o1, ?_, g1, g2, g3, g4, Mx.nil (fun v hv => ?_)⟩
              · rw [lp_X5_goOn_61_s, g1 3 (by decide) (by decide), hf.1.2.1, show k = M 0 1 by omega, if_pos (Int32.le_refl _)]
              · obtain ⟨j, y, h1, h2, -⟩ := hv
                omega
            | succ c ihc =>
              intro k n f1 o1 hk hn g1 g2 g3 g4
              obtain ⟨n, rfl⟩ : ∃ j, n = j + 1 := ⟨n - 1, by omega⟩
              have hf1 : TF f1 M := hf.go (fun j a1 a2 => g1 j (by omega) (by omega))
              have step := lp_X5_goOn_61_s (r_X5_goOn N D) N (nI e) (nI x) (nI d) (nI B) (nI (sm S 9)) (nI (tk M (M 6 e) d)) n (nI k) f1
              rw [hf1.1.2.1, if_neg (nI_ge (by omega) (by omega)), acrossF hw hf1 (by omega) hx (by omega), bi_some] at step
              simp only [sq] at step
              have hkk : nI k + 1 = nI (k + 1) := nI_1 k
              rw [hkk] at step
              have hs9 := hS k (by omega)
              have htk := tk_le hw a3.1 d
              have nost : stp M S (M 6 e) d x B k = none → lp_X5_goOn_61 (r_X5_goOn N D) N (nI e) (nI x) (nI d) (nI B) (nI (sm S 9)) (nI (tk M (M 6 e) d)) (n + 1) (nI k) f1 = lp_X5_goOn_61 (r_X5_goOn N D) N (nI e) (nI x) (nI d) (nI B) (nI (sm S 9)) (nI (tk M (M 6 e) d)) n (nI (k + 1)) f1 → ∃ f' o', lp_X5_goOn_61 (r_X5_goOn N D) N (nI e) (nI x) (nI d) (nI B) (nI (sm S 9)) (nI (tk M (M 6 e) d)) (n + 1) (nI k) f1 = some f' ∧ (∀ c, c ≠ 24 → c ≠ 39 → f' c = f c) ∧ (∀ k, k < 9 → f' 24 k = nI (S k)) ∧ f' 39 2 = cI o' ∧ (∀ v, o' = some v → v ≤ 81) ∧ Mx o1 o' (GLk M e (M 0 3 - 1 - e) d x B S k) := by
                intro hno hst
                obtain ⟨f', o', k1, k2, k3, k4, k5, k6⟩ := ihc (k + 1) n f1 o1 (by omega) (by omega) g1 g2 g3 g4
                refine ⟨f', o', hst.trans k1, k2, k3, k4, k5, k6.congr (fun v => ?_)⟩
                rw [GLk_cons (by omega), hno]
                constructor
                · intro h
                  rcases h with ⟨y, h, -⟩ | h
                  · cases h
                  · exact h
                · exact Or.inr
              cases ha : acr M k x with
              | none =>
                rw [ha] at step
                exact nost (by unfold stp; rw [ha]) (by rw [step, if_pos rfl])
              | some y =>
                have hy := acr_lt hw (by omega) ha
                rw [ha] at step
                simp only [] at step
                by_cases ct : B.testBit y = true
                · rw [if_pos ct, if_pos rfl] at step
                  exact nost (by unfold stp; rw [ha]; simp [ct]) step
                · rw [if_neg ct, if_neg (show ¬ nI y = -1 by rw [i_eq, nI_toInt (by omega), show (-1 : Int32).toInt = -1 from rfl]; omega), canTakeF (S := S) (by omega) hs9 (g2 k (by omega)) (by omega), bi_some] at step
                  by_cases cg : 1 ≤ S k ∧ tk M (M 6 e) d ≤ S k
                  · have hst : stp M S (M 6 e) d x B k = some y := by unfold stp; rw [ha]; simp [ct, canG, cg]
                    have hsum := sm_up cg.2 9
                    rw [if_pos (show k < 9 by omega)] at hsum
                    have hS' : ∀ j, j < 9 → upN S k (S k - tk M (M 6 e) d) j ≤ 9 := fun j hj => Nat.le_trans (upN_le j) (hS j hj)
                    rw [if_pos cg, if_neg z10, gi_in _ (by omega) (by decide), gi_in _ (by omega) (by decide), cl_nI (by omega), g2 k (by omega), pk_sub cg.2, sh_l (by omega), or_nI, show nI d + 1 = nI (d + 1) from nI_1 d, pk_sub (by omega), show sm S 9 - tk M (M 6 e) d = sm (upN S k (S k - tk M (M 6 e) d)) 9 by omega] at step
                    obtain ⟨f3, o3, r1, r2, r3, r4, r5, r6⟩ := ih e y (d + 1) (B ||| 2 ^ y) (upN S k (S k - tk M (M 6 e) d)) (st2 f1 24 k (nI (S k - tk M (M 6 e) d))) o1 he (by omega) (by omega) hy (or_lt hB (by omega)) (by rw [cn_or (by simpa using ct) hy, hcn]) hS' (hf1.go (fun j a1 a2 => st2_c (by omega)))
                      (fun j hj => by
                        by_cases cj : j = k
                        · subst cj; rw [st2_e, upN_e]
                        · rw [st2_k cj, upN_n cj]; exact g2 j hj) (by rw [st2_c (by decide)]; exact g3) g4
                    rw [r1, bi_some, gi_in _ (by omega) (by decide), gi_in _ (by omega) (by decide), r3 k (by omega), upN_e, nI_add, show S k - tk M (M 6 e) d + tk M (M 6 e) d = S k by omega] at step
                    obtain ⟨f4, o4, k1, k2, k3, k4, k5, k6⟩ := ihc (k + 1) n (st2 f3 24 k (nI (S k))) o3 (by omega) (by omega) (fun j h1 h2 => by rw [st2_c h1, r2 j h1 h2, st2_c h1]; exact g1 j h1 h2)
                      (fun j hj => by
                        by_cases cj : j = k
                        · subst cj; rw [st2_e]
                        · rw [st2_k cj, r3 j hj, upN_n cj]) (by rw [st2_c (by decide)]; exact r4) r5
                    refine ⟨f4, o4, step.trans k1, k2, k3, k4, k5, r6.comp k6 (fun v => ?_)⟩
                    rw [GLk_cons (by omega), hst]
                    constructor
                    · intro h
                      rcases h with ⟨y2, h, h2⟩ | h
                      · have := Option.some.inj h
                        subst this
                        exact Or.inl h2
                      · exact Or.inr h
                    · intro h
                      rcases h with h | h
                      · exact Or.inl ⟨y, rfl, h⟩
                      · exact Or.inr h
                  · rw [if_neg cg, if_pos rfl] at step
                    exact nost (by unfold stp; rw [ha]; simp [ct, canG, cg]) step
          obtain ⟨f', o', k1, k2, k3, k4, k5, k6⟩ := lp (M 0 1) 0 N f o (by omega) (by omega) (fun _ _ _ => rfl) h24 h39 ho
          have k1 : lp_X5_goOn_61 (r_X5_goOn N D) N (nI e) (nI x) (nI d) (nI B) (nI (sm S 9)) (nI (tk M (M 6 e) d)) N 0 f = some f' := k1
          rw [k1, bi_some]
          exact ⟨f', o', rfl, k2, k3, k4, k5, k6.congr (fun v => GLm_step cx v)⟩
        · rw [if_neg (show ¬ nI d < 5 from nI_nlt (b := 5) (by omega) (by omega))]
          refine ⟨f, o, rfl, fun _ _ _ => rfl, h24, h39, ho, Mx.nil (fun v hv => ?_)⟩
          rw [GLm_step cx] at hv
          obtain ⟨j, y, h1, h2, h3, -⟩ := hv
          obtain ⟨s1, s2, -⟩ := stp_some h3
          have hy := acr_lt hw h2 s1
          have := cn_or s2 hy
          have := cn_le (fun z => (B ||| 2 ^ y).testBit z) (M 0 0)
          omega
theorem mostLeftF {M : tM} (hw : WF M) {N : Nat} (hN : 1000 ≤ N) {S : Nat → Nat} {f : mM} (hS : ∀ k, k < 9 → S k ≤ 9) (hf : TF f M) (h24 : ∀ k, k < 9 → f 24 k = nI (S k)) : ∃ f' o, q_X5_mostLeft N f = some (cI o, f') ∧ (∀ c, c ≠ 24 → c ≠ 39 → f' c = f c) ∧ (∀ k, k < 9 → f' 24 k = nI (S k)) ∧ Mx none o (RUNm M (M 0 3) 0 S) := by
  have hb := hw.1
  have h81 : sm S 9 ≤ 81 := by have := sm_le hS 9 (by omega); omega
  unfold q_X5_mostLeft q_X5_beginErrand
  simp only [sq]
  have hf1 : TF (st2 f 39 2 (-9)) M := hf.go (fun j a1 a2 => st2_c (by omega))
  have h241 : ∀ k, k < 9 → st2 f 39 2 (-9) 24 k = nI (S k) := fun k hk => by rw [st2_c (by decide)]; exact h24 k hk
  rw [borneF h241 (by omega), bi_some, hf1.1.2.2.2]
  by_cases c : M 0 3 = 0
  · rw [c, if_neg (by decide), bi_some, st2_e, st2_e, if_pos (show (-9 : Int32) < nI (sm S 9) by rw [i_lt, nI_toInt (by omega), show (-9 : Int32).toInt = -9 from rfl]; omega)]
    refine ⟨_, some (sm S 9), rfl, fun j h1 h2 => by rw [st2_c h2, st2_c h2], fun k hk => by rw [st2_c (by decide)]; exact h241 k hk, ?_⟩
    exact ⟨fun v hv => ⟨sm S 9, rfl, RUNm_le _ _ _ _ hv⟩, fun v hv => (by cases hv), Or.inr ⟨sm S 9, rfl, rfl⟩⟩
  · have a1 := hf1.2.2.2 0 (by omega)
    have a3 := hw.2.2.2 0 (by omega)
    rw [if_pos (show (0 : Int32) < nI (M 0 3) from nI_lt (a := 0) (by omega) (by omega)), gi_lit _ (by decide), gi_lit _ (by decide), show Int32.toNatClampNeg 0 = 0 from rfl, a1.2.1, sh_l (by omega)]
    obtain ⟨f', o', r1, r2, r3, r4, r5, r6⟩ := goOnF hw hN 20 0 (M 7 0) 0 (2 ^ M 7 0) S (st2 f 39 2 (-9)) none (by omega) (by omega) (by omega) a3.2.1 (Nat.pow_lt_pow_right (n := 6) (by omega) (by omega)) (cn_one a3.2.1) hS hf1 h241 st2_e (fun v hv => by cases hv)
    rw [show r_X5_goOn N 20 0 (nI (M 7 0)) 0 (nI (2 ^ M 7 0)) (nI (sm S 9)) (st2 f 39 2 (-9)) = some f' from r1, bi_some, bi_some, r4]
    refine ⟨f', o', rfl, fun j h1 h2 => by rw [r2 j h1 h2, st2_c h2], r3, r6.congr (fun v => ?_)⟩
    rw [show M 0 3 = (M 0 3 - 1 - 0) + 1 by omega]
    rfl
