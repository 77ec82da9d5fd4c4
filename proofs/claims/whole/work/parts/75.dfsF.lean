def CC : Nat → Nat
  | 0 => 1
  | m + 1 => 1 + 9 * (1 + CC m)
theorem cn_add {P : Nat → Bool} {y : Nat} (h : P y = false) : ∀ n, cn (fun z => P z || decide (y = z)) n = cn P n + if y < n then 1 else 0 := by
  intro n
  induction n with
  | zero => rfl
  | succ n ih =>
    show cn (fun z => P z || decide (y = z)) n + (if (P n || decide (y = n)) = true then 1 else 0) = cn P n + (if P n = true then 1 else 0) + _
    rw [ih]
    by_cases c : y = n
    · subst c
      rw [h, if_neg (by omega), if_pos (by simp), if_neg (by decide), if_pos (by omega)]
    · by_cases c2 : y < n
      · rw [if_pos c2, if_pos (show y < n + 1 by omega)]
        simp only [c, decide_false, Bool.or_false]
        omega
      · rw [if_neg c2, if_neg (show ¬ y < n + 1 by omega)]
        simp only [c, decide_false, Bool.or_false]
        omega
theorem bit_or (B y : Nat) : (fun z => (B ||| 2 ^ y).testBit z) = fun z => B.testBit z || decide (y = z) := by
  funext z
  rw [Nat.testBit_or, Nat.testBit_two_pow]
theorem cn_or {B y n : Nat} (h : B.testBit y = false) (hy : y < n) : cn (fun z => (B ||| 2 ^ y).testBit z) n = cn (fun z => B.testBit z) n + 1 := by
  rw [bit_or, cn_add (P := fun z => B.testBit z) h, if_pos hy]
theorem nx_some {M : tM} {x B k y : Nat} (h : nx M x B k = some y) : acr M k x = some y ∧ B.testBit y = false := by
  unfold nx at h
  cases ha : acr M k x with
  | none => rw [ha] at h; cases h
  | some z =>
    rw [ha] at h
    simp only [] at h
    by_cases c : B.testBit z = true
    · rw [if_pos c] at h; cases h
    · rw [if_neg c] at h
      rw [← Option.some.inj h]
      exact ⟨rfl, by simpa using c⟩
theorem stp_nx (M : tM) (S : Nat → Nat) (p d x B k : Nat) : stp M S p d x B k = match nx M x B k with | none => none | some y => if canG M S p k d then some y else none := by
  unfold stp nx
  cases acr M k x with
  | none => rfl
  | some z =>
    simp only []
    by_cases c : B.testBit z = true
    · rw [if_pos c, if_pos c]
    · rw [if_neg c, if_neg c]
def IsP (M : tM) (b : Nat) (L G : Nat → Int32 → Int32 → mM → Option (Int32 × mM)) : Prop := ∀ (n : Nat) (acc : Int32) (d y : Nat) (g : mM), d + 1 ≤ 5 → y < 6 → y ≠ b → g 12 (d + 1) = nI y → TG g M → G n acc (nI d) g = L n acc (nI (d + 1)) (st2 g 11 (d + 1) (-1))
def IsG (K b : Nat) (Q : List (List Nat) → Int32 → mM → Prop) (L G : Nat → Int32 → Int32 → mM → Option (Int32 × mM)) : Prop := ∀ (ps : List (List Nat)) (acc : Int32) (d : Nat) (pre : List Nat) (g : mM), d < 6 → pre.length = d + 1 → Q ps acc g → ps.length < K → (∀ e, e < d + 1 → g 11 e = nI (pre.getD e 0)) → (∀ e, e < d + 1 → pre.getD e 0 < 9) → g 12 (d + 1) = nI b → ∃ acc' g', (∀ n, G n acc (nI d) g = L n acc' (nI d) g') ∧ Q (ps ++ [pre]) acc' g' ∧ g' 11 = g 11 ∧ g' 12 = g 12
def IsQ (M : tM) (S : Nat → Nat) (Q : List (List Nat) → Int32 → mM → Prop) : Prop := (∀ ps acc (g g' : mM), (∀ c, c ≠ 11 → c ≠ 12 → g' c = g c) → Q ps acc g → Q ps acc g') ∧ ∀ ps acc (g : mM), Q ps acc g → TG g M ∧ ∀ k, k < 9 → g 8 k = nI (S k)
theorem getD_snoc (pre : List Nat) (k e : Nat) : (pre ++ [k]).getD e 0 = if e = pre.length then k else pre.getD e 0 := by
  rw [List.getD_eq_getElem?_getD, List.getD_eq_getElem?_getD, List.getElem?_append]
  by_cases c : e < pre.length
  · rw [if_pos c, if_neg (by omega)]
  · rw [if_neg c]
    by_cases c2 : e = pre.length
    · rw [if_pos c2, c2, Nat.sub_self]; rfl
    · rw [if_neg c2, List.getElem?_eq_none (by simp; omega), List.getElem?_eq_none (by omega)]
theorem sub1 (k : Nat) : nI (k + 1) - 1 = nI k := by
  have := pk_sub (a := k + 1) (b := 1) (by omega)
  exact this
theorem map_pre (pre : List Nat) (k : Nat) (l : List (List Nat)) : (l.map (fun q => k :: q)).map (fun q => pre ++ q) = l.map (fun q => (pre ++ [k]) ++ q) := by
  rw [List.map_map]
  apply List.map_congr_left
  intro q _
  show pre ++ (k :: q) = pre ++ [k] ++ q
  rw [List.append_assoc]; rfl
set_option maxHeartbeats 2000000 in
theorem dfs_run {N p b K : Nat} {L G : Nat → Int32 → Int32 → mM → Option (Int32 × mM)} {Q : List (List Nat) → Int32 → mM → Prop} (hL : IsL N p L G) {M : tM} {S : Nat → Nat} (hP : IsP M b L G) (hG : IsG K b Q L G) (hQ : IsQ M S Q) (hw : WF M) (hp : p < M 0 2) (hS : ∀ k, k < 9 → S k ≤ 9) (hN : 100 ≤ N) :
    ∀ m d x B (A : Nat → Nat) (pre : List Nat) (ps : List (List Nat)) (acc : Int32) (g : mM), d + 1 + m = M 0 0 → cn (fun z => B.testBit z) (M 0 0) = d + 1 → A d = x → x < M 0 0 → (∀ e, e ≤ d → A e < 6) → (∀ y, B.testBit y = inA A y (d + 1)) → pre.length = d → (∀ e, e < d → pre.getD e 0 < 9) → (∀ e, e ≤ d → g 12 e = nI (A e)) → (∀ e, e < d → g 11 e = nI (pre.getD e 0)) → g 11 d = -1 → Q ps acc g → ps.length + (PA M S p b m d x B).length ≤ K → ∃ s acc' g', s ≤ CC m ∧ (∀ n, L (n + s) acc (nI d) g = L n acc' (nI d - 1) g') ∧ Q (ps ++ (PA M S p b m d x B).map (fun q => pre ++ q)) acc' g' ∧ (∀ e, e ≤ d → g' 12 e = g 12 e) ∧ ∀ e, e < d → g' 11 e = g 11 e := by
  have hb := hw.1
  intro m
  induction m with
  | zero =>
    intro d x B A pre ps acc g hm hcn hAx hx hA6 hB hpl hp9 h12 h11 hr hq hK
    have hall : ∀ y, y < M 0 0 → B.testBit y = true := by
      intro y hy
      by_cases c : B.testBit y = true
      · exact c
      · have c : B.testBit y = false := by simpa using c
        have h1 := cn_or c hy
        have h2 := cn_le (fun z => (B ||| 2 ^ y).testBit z) (M 0 0)
        omega
    have hnone : ∀ j, j < M 0 1 → nx M x B j = none := by
      intro j hj
      cases h : nx M x B j with
      | none => rfl
      | some y =>
        obtain ⟨h1, h2⟩ := nx_some h
        rw [hall y (acr_lt hw hj h1)] at h2
        cases h2
    have hnf : nf M x B (M 0 1 - 0) 0 = M 0 1 := by
      rcases nf_spec M x B (M 0 1 - 0) 0 with ⟨h1, h2⟩ | ⟨y, h1, h2, h3, h4⟩
      · omega
      · rw [hnone _ (by omega)] at h3; cases h3
    refine ⟨1, acc, st2 g 11 d (nI (M 0 1)), Nat.le_refl 1, fun n => (dfs_step hL hw hp hS (hQ.2 _ _ _ hq).1 (hQ.2 _ _ _ hq).2 A hx hAx (by omega) (fun e he => ⟨h12 e he, hA6 e he⟩) hB (k := 0) (by omega) (by rw [hr]; decide) hN n acc).1 hnf, ?_, fun e he => by rw [st2_c (by decide)], fun e he => st2_k (by omega)⟩
    show Q (ps ++ []) acc _
    rw [List.append_nil]
    exact hQ.1 _ _ _ _ (fun c h1 h2 => st2_c h1) hq
  | succ m ih =>
    intro d x B A pre ps acc g hm hcn hAx hx hA6 hB hpl hp9 h12 h11 hr hq hK
    have lp : ∀ t c k (ps : List (List Nat)) (acc : Int32) (g : mM), c ≤ t → k + c = M 0 1 → (∀ e, e ≤ d → g 12 e = nI (A e)) → (∀ e, e < d → g 11 e = nI (pre.getD e 0)) → g 11 d = nI k - 1 → Q ps acc g → ps.length + (pal (stp M S p d x B) (fun y => if y = b then [[]] else PA M S p b m (d + 1) y (B ||| 2 ^ y)) c k).length ≤ K → ∃ s acc' g', s ≤ 1 + c * (1 + CC m) ∧ (∀ n, L (n + s) acc (nI d) g = L n acc' (nI d - 1) g') ∧ Q (ps ++ (pal (stp M S p d x B) (fun y => if y = b then [[]] else PA M S p b m (d + 1) y (B ||| 2 ^ y)) c k).map (fun q => pre ++ q)) acc' g' ∧ (∀ e, e ≤ d → g' 12 e = g 12 e) ∧ ∀ e, e < d → g' 11 e = g 11 e := by
      intro t
      induction t with
      | zero =>
        intro c k ps acc g ht hk h12 h11 hr hq hK
        have hc : c = 0 := by omega
        subst hc
        have hnf : nf M x B (M 0 1 - k) k = M 0 1 := by rw [show M 0 1 - k = 0 by omega]; show k = _; omega
        refine ⟨1, acc, st2 g 11 d (nI (M 0 1)), by omega, fun n => (dfs_step hL hw hp hS (hQ.2 _ _ _ hq).1 (hQ.2 _ _ _ hq).2 A hx hAx (by omega) (fun e he => ⟨h12 e he, hA6 e he⟩) hB (k := k) (by omega) hr hN n acc).1 hnf, ?_, fun e he => by rw [st2_c (by decide)], fun e he => st2_k (by omega)⟩
        show Q (ps ++ []) acc _
        rw [List.append_nil]
        exact hQ.1 _ _ _ _ (fun c h1 h2 => st2_c h1) hq
      | succ t iht =>
        intro c k ps acc g ht hk h12 h11 hr hq hK
        have hst := fun n => dfs_step hL hw hp hS (hQ.2 _ _ _ hq).1 (hQ.2 _ _ _ hq).2 A hx hAx (by omega) (fun e he => ⟨h12 e he, hA6 e he⟩) hB (k := k) (by omega) hr hN n acc
        rw [show M 0 1 - k = c by omega] at hst
        rcases nf_spec M x B c k with ⟨h1, h2⟩ | ⟨y, h1, h2, h3, h4⟩
        · have hnil : pal (stp M S p d x B) (fun y => if y = b then [[]] else PA M S p b m (d + 1) y (B ||| 2 ^ y)) c k = [] := pal_nil c k (fun j a1 a2 => by rw [stp_nx, h2 j a1 a2])
          refine ⟨1, acc, st2 g 11 d (nI (M 0 1)), by omega, fun n => (hst n).1 (by omega), ?_, fun e he => by rw [st2_c (by decide)], fun e he => st2_k (by omega)⟩
          rw [hnil]
          show Q (ps ++ []) acc _
          rw [List.append_nil]
          exact hQ.1 _ _ _ _ (fun c h1 h2 => st2_c h1) hq
        · obtain ⟨k', hk'⟩ : ∃ k', nf M x B c k = k' := ⟨_, rfl⟩
          rw [hk'] at h1 h2 h3 h4
          obtain ⟨c', rfl⟩ : ∃ c', c = (k' - k) + (c' + 1) := ⟨c - (k' - k) - 1, by omega⟩
          have hsk := pal_skip (stq := stp M S p d x B) (sub := fun y => if y = b then [[]] else PA M S p b m (d + 1) y (B ||| 2 ^ y)) (k' - k) (c' + 1) k (fun j a1 a2 => by rw [stp_nx, h4 j a1 (by omega)])
          rw [show k + (k' - k) = k' by omega] at hsk
          rw [hsk] at hK ⊢
          obtain ⟨ha, hby⟩ := nx_some h3
          have hy := acr_lt hw (by omega) ha
          have hmul : (c' + 1) * (1 + CC m) ≤ ((k' - k) + (c' + 1)) * (1 + CC m) := Nat.mul_le_mul_right _ (by omega)
          rw [Nat.succ_mul] at hmul
          have hcn2 := cn_or hby hy
          by_cases cc : canG M S p k' d = true
          · have hsp : stp M S p d x B k' = some y := by rw [stp_nx, h3]; simp [cc]
            have hpal : pal (stp M S p d x B) (fun y => if y = b then [[]] else PA M S p b m (d + 1) y (B ||| 2 ^ y)) (c' + 1) k' = (if y = b then [[]] else PA M S p b m (d + 1) y (B ||| 2 ^ y)).map (fun q => k' :: q) ++ pal (stp M S p d x B) (fun y => if y = b then [[]] else PA M S p b m (d + 1) y (B ||| 2 ^ y)) c' (k' + 1) := by
              show (match stp M S p d x B k' with | none => _ | some y => _) = _
              rw [hsp]
            rw [hpal] at hK ⊢
            rw [List.length_append, List.length_map] at hK
            have hgo := fun n => ((hst n).2 k' y hk' (by omega) h3).2 cc
            have g2q : Q ps acc (st2 (st2 g 11 d (nI k')) 12 (d + 1) (nI y)) := hQ.1 _ _ _ _ (fun c h1 h2 => by rw [st2_c h2, st2_c h1]) hq
            have hpre : ∀ e, e < d + 1 → st2 (st2 g 11 d (nI k')) 12 (d + 1) (nI y) 11 e = nI ((pre ++ [k']).getD e 0) := by
              intro e he
              rw [st2_c (by decide), getD_snoc, hpl]
              by_cases ce : e = d
              · rw [if_pos ce, ce, st2_e]
              · rw [if_neg ce, st2_k ce]; exact h11 e (by omega)
            have hpre9 : ∀ e, e < d + 1 → (pre ++ [k']).getD e 0 < 9 := by
              intro e he
              rw [getD_snoc, hpl]
              by_cases ce : e = d
              · rw [if_pos ce]; omega
              · rw [if_neg ce]; exact hp9 e (by omega)
            by_cases cb : y = b
            · rw [if_pos cb] at hK ⊢
              have hK1 : ps.length + (1 + (pal (stp M S p d x B) (fun y => if y = b then [[]] else PA M S p b m (d + 1) y (B ||| 2 ^ y)) c' (k' + 1)).length) ≤ K := hK
              obtain ⟨acc', g', e1, e2, e3, e4⟩ := hG ps acc d (pre ++ [k']) _ (by omega) (by rw [List.length_append, hpl]; rfl) g2q (by omega) hpre hpre9 (by rw [st2_e, cb])
              obtain ⟨s, acc2, g3, r1, r2, r3, r4, r5⟩ := iht c' (k' + 1) (ps ++ [pre ++ [k']]) acc' g' (by omega) (by omega) (fun e he => by rw [e4, st2_k (by omega), st2_c (by decide)]; exact h12 e he) (fun e he => by rw [e3, st2_c (by decide), st2_k (by omega)]; exact h11 e he) (by rw [e3, st2_c (by decide), st2_e, sub1]) e2 (by rw [List.length_append]; show ps.length + 1 + _ ≤ K; omega)
              refine ⟨s + 1, acc2, g3, by omega, fun n => ?_, ?_, fun e he => ?_, fun e he => ?_⟩
              · rw [← Nat.add_assoc, hgo, e1, r2]
              · rw [List.map_append]
                show Q (ps ++ ([pre ++ [k']] ++ _)) acc2 g3
                rw [← List.append_assoc]
                exact r3
              · rw [r4 e he, e4, st2_k (by omega), st2_c (by decide)]
              · rw [r5 e he, e3, st2_c (by decide), st2_k (by omega)]
            · rw [if_neg cb] at hK ⊢
              have hlt := cn_le (fun z => (B ||| 2 ^ y).testBit z) (M 0 0)
              have hpush := fun n => hP n acc d y (st2 (st2 g 11 d (nI k')) 12 (d + 1) (nI y)) (by omega) (by omega) cb st2_e (hQ.2 _ _ _ g2q).1
              have hinA : ∀ z e, e ≤ d + 1 → inA (upN A (d + 1) y) z e = inA A z e := by
                intro z e
                induction e with
                | zero => intro _; rfl
                | succ e ihe =>
                  intro he
                  show (inA (upN A (d + 1) y) z e || decide (upN A (d + 1) y e = z)) = (inA A z e || decide (A e = z))
                  rw [ihe (by omega), upN_n (by omega)]
              obtain ⟨s1, acc1, g1, q1, q2, q3, q4, q5⟩ := ih (d + 1) y (B ||| 2 ^ y) (upN A (d + 1) y) (pre ++ [k']) ps acc (st2 (st2 (st2 g 11 d (nI k')) 12 (d + 1) (nI y)) 11 (d + 1) (-1)) (by omega) (by omega) upN_e hy
                (fun e he => by
                  by_cases ce : e = d + 1
                  · rw [ce, upN_e]; omega
                  · rw [upN_n ce]; exact hA6 e (by omega))
                (fun z => by
                  rw [show (B ||| 2 ^ y).testBit z = _ from congrFun (bit_or B y) z]
                  show _ = (inA (upN A (d + 1) y) z (d + 1) || decide (upN A (d + 1) y (d + 1) = z))
                  rw [hinA z (d + 1) (Nat.le_refl _), upN_e, hB z])
                (by rw [List.length_append, hpl]; rfl) hpre9
                (fun e he => by
                  rw [st2_c (by decide)]
                  by_cases ce : e = d + 1
                  · rw [ce, st2_e, upN_e]
                  · rw [st2_k ce, st2_c (by decide), upN_n ce]; exact h12 e (by omega))
                (fun e he => by rw [st2_k (by omega)]; exact hpre e he) st2_e (hQ.1 _ _ _ _ (fun c h1 h2 => st2_c h1) g2q) (by omega)
              obtain ⟨s, acc2, g3, r1, r2, r3, r4, r5⟩ := iht c' (k' + 1) (ps ++ (PA M S p b m (d + 1) y (B ||| 2 ^ y)).map (fun q => (pre ++ [k']) ++ q)) acc1 g1 (by omega) (by omega)
                (fun e he => by rw [q4 e (by omega), st2_c (by decide), st2_k (by omega), st2_c (by decide)]; exact h12 e he)
                (fun e he => by rw [q5 e (by omega), st2_k (by omega), st2_c (by decide), st2_k (by omega)]; exact h11 e he)
                (by rw [q5 d (by omega), st2_k (by omega), st2_c (by decide), st2_e, sub1]) q3 (by rw [List.length_append, List.length_map]; omega)
              refine ⟨s + (s1 + 1), acc2, g3, by omega, fun n => ?_, ?_, fun e he => ?_, fun e he => ?_⟩
              · rw [← Nat.add_assoc, ← Nat.add_assoc, hgo, hpush, q2, sub1, r2]
              · rw [List.map_append, map_pre, ← List.append_assoc]
                exact r3
              · rw [r4 e he, q4 e (by omega), st2_c (by decide), st2_k (by omega), st2_c (by decide)]
              · rw [r5 e he, q5 e (by omega), st2_k (by omega), st2_c (by decide), st2_k (by omega)]
          · have cc : canG M S p k' d = false := by simpa using cc
            have hsp : stp M S p d x B k' = none := by rw [stp_nx, h3]; simp [cc]
            have hpal : pal (stp M S p d x B) (fun y => if y = b then [[]] else PA M S p b m (d + 1) y (B ||| 2 ^ y)) (c' + 1) k' = pal (stp M S p d x B) (fun y => if y = b then [[]] else PA M S p b m (d + 1) y (B ||| 2 ^ y)) c' (k' + 1) := by
              show (match stp M S p d x B k' with | none => _ | some y => _) = _
              rw [hsp]
            rw [hpal] at hK ⊢
            obtain ⟨s, acc2, g3, r1, r2, r3, r4, r5⟩ := iht c' (k' + 1) ps acc (st2 g 11 d (nI k')) (by omega) (by omega) (fun e he => by rw [st2_c (by decide)]; exact h12 e he) (fun e he => by rw [st2_k (by omega)]; exact h11 e he) (by rw [st2_e, sub1]) (hQ.1 _ _ _ _ (fun c h1 h2 => st2_c h1) hq) hK
            refine ⟨s + 1, acc2, g3, by omega, fun n => ?_, r3, fun e he => ?_, fun e he => ?_⟩
            · rw [← Nat.add_assoc, ((hst _).2 k' y hk' (by omega) h3).1 cc, r2]
            · rw [r4 e he, st2_c (by decide)]
            · rw [r5 e he, st2_k (by omega)]
    obtain ⟨s, acc2, g3, r1, r2, r3, r4, r5⟩ := lp (M 0 1) (M 0 1) 0 ps acc g (Nat.le_refl _) (by omega) h12 h11 (by rw [hr]; decide) hq hK
    refine ⟨s, acc2, g3, ?_, r2, r3, r4, r5⟩
    have : M 0 1 * (1 + CC m) ≤ 9 * (1 + CC m) := Nat.mul_le_mul_right _ (by omega)
    show s ≤ 1 + 9 * (1 + CC m)
    omega
