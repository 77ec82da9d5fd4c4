/-! the first way: the shortest, and of these the first -/
def bs (o : Option (List Nat)) (q : List Nat) : Option (List Nat) := match o with
  | none => some q
  | some r => if q.length < r.length then some q else some r
theorem bs_keep {r : List Nat} : ∀ ps : List (List Nat), (∀ q, q ∈ ps → r.length ≤ q.length) → ps.foldl bs (some r) = some r := by
  intro ps
  induction ps with
  | nil => intro _; rfl
  | cons q ps ih =>
    intro h
    rw [List.foldl_cons]
    have : bs (some r) q = some r := by
      show (if q.length < r.length then some q else some r) = some r
      have := h q (List.mem_cons_self ..)
      rw [if_neg (by omega)]
    rw [this]
    exact ih (fun q hq => h q (List.mem_cons_of_mem _ hq))
theorem bs_find {l : Nat} {q : List Nat} : ∀ (ps : List (List Nat)) (o : Option (List Nat)), (∀ r, o = some r → l < r.length) → ps.find? (fun r => decide (r.length = l)) = some q → (∀ q', q' ∈ ps → l ≤ q'.length) → ps.foldl bs o = some q := by
  intro ps
  induction ps with
  | nil => intro o _ h; cases h
  | cons r ps ih =>
    intro o ho h hl
    rw [List.foldl_cons]
    have hr := hl r (List.mem_cons_self ..)
    have hm : ∀ q', q' ∈ ps → l ≤ q'.length := fun q' h => hl q' (List.mem_cons_of_mem _ h)
    by_cases c : r.length = l
    · rw [List.find?_cons_of_pos (by simpa using c)] at h
      have h := Option.some.inj h
      have : bs o r = some r := by
        cases o with
        | none => rfl
        | some z =>
          have := ho z rfl
          show (if r.length < z.length then some r else some z) = some r
          rw [if_pos (by omega)]
      rw [this, bs_keep ps (fun q' hq => by have := hm q' hq; omega), h]
    · rw [List.find?_cons_of_neg (by simpa using c)] at h
      refine ih _ (fun z hz => ?_) h hm
      cases o with
      | none =>
        have := Option.some.inj (show some r = some z from hz)
        subst this
        omega
      | some w =>
        have hw := ho w rfl
        have hz : (if r.length < w.length then some r else some w) = some z := hz
        by_cases c2 : r.length < w.length
        · rw [if_pos c2] at hz; have := Option.some.inj hz; subst this; omega
        · rw [if_neg c2] at hz; have := Option.some.inj hz; subst this; exact hw
theorem mem_pal {stq : Nat → Option Nat} {sub : Nat → List (List Nat)} : ∀ c k q, q ∈ pal stq sub c k → ∃ j y r, k ≤ j ∧ j < k + c ∧ stq j = some y ∧ r ∈ sub y ∧ q = j :: r := by
  intro c
  induction c with
  | zero => intro k q h; cases h
  | succ c ih =>
    intro k q h
    unfold pal at h
    cases hs : stq k with
    | none =>
      rw [hs] at h
      obtain ⟨j, y, r, h1, h2, h3, h4, h5⟩ := ih (k + 1) q h
      exact ⟨j, y, r, by omega, by omega, h3, h4, h5⟩
    | some y =>
      rw [hs] at h
      simp only [] at h
      rcases List.mem_append.mp h with h | h
      · obtain ⟨r, h1, h2⟩ := List.mem_map.mp h
        exact ⟨k, y, r, by omega, by omega, hs, h1, h2.symm⟩
      · obtain ⟨j, y, r, h1, h2, h3, h4, h5⟩ := ih (k + 1) q h
        exact ⟨j, y, r, by omega, by omega, h3, h4, h5⟩
theorem PA_len {M : tM} {S : Nat → Nat} {p b : Nat} : ∀ m d x B q, q ∈ PA M S p b m d x B → 1 ≤ q.length ∧ q.length ≤ m := by
  intro m
  induction m with
  | zero => intro d x B q h; cases h
  | succ m ih =>
    intro d x B q h
    obtain ⟨j, y, r, h1, h2, h3, h4, h5⟩ := mem_pal _ _ _ h
    subst h5
    rw [List.length_cons]
    have h4 : r ∈ (if y = b then [[]] else PA M S p b m (d + 1) y (B ||| 2 ^ y)) := h4
    by_cases c : y = b
    · rw [if_pos c] at h4
      have := List.mem_singleton.mp h4
      subst this
      exact ⟨by simp, by simp⟩
    · rw [if_neg c] at h4
      have := ih _ _ _ _ h4
      omega
theorem ffl_find {stq : Nat → Option Nat} {sF : Nat → Option (List Nat)} {sP : Nat → List (List Nat)} {l : Nat} (h : ∀ y, sF y = (sP y).find? (fun r => decide (r.length = l))) : ∀ c k, ffl stq sF c k = (pal stq sP c k).find? (fun r => decide (r.length = l + 1)) := by
  intro c
  induction c with
  | zero => intro k; rfl
  | succ c ih =>
    intro k
    unfold ffl pal
    cases hs : stq k with
    | none => exact ih (k + 1)
    | some y =>
      simp only []
      rw [List.find?_append, List.find?_map, ← ih (k + 1), h y]
      have : ((fun r : List Nat => decide (r.length = l + 1)) ∘ fun q => k :: q) = fun r => decide (r.length = l) := by
        funext r
        show decide ((k :: r).length = l + 1) = decide (r.length = l)
        rw [List.length_cons]
        simp
      rw [this]
      cases (sP y).find? (fun r => decide (r.length = l)) with
      | none => rfl
      | some q => rfl
theorem FF_find {M : tM} {S : Nat → Nat} {p b : Nat} : ∀ l m d x B, l ≤ m → x ≠ b → FF M S p b l d x B = (PA M S p b m d x B).find? (fun r => decide (r.length = l)) := by
  intro l
  induction l with
  | zero =>
    intro m d x B _ hx
    unfold FF
    rw [if_neg hx]
    symm
    rw [List.find?_eq_none]
    intro q hq
    have := PA_len _ _ _ _ _ hq
    simp
    intro h
    rw [h] at this
    simp at this
  | succ l ih =>
    intro m d x B hm hx
    obtain ⟨m, rfl⟩ : ∃ j, m = j + 1 := ⟨m - 1, by omega⟩
    unfold FF PA
    rw [if_neg hx]
    apply ffl_find
    intro y
    by_cases c : y = b
    · rw [if_pos c]
      subst c
      cases l with
      | zero => unfold FF; rw [if_pos rfl]; rfl
      | succ l => unfold FF; rw [if_pos rfl]; rfl
    · rw [if_neg c]
      exact ih m _ _ _ (by omega) c
/-- the class's first way is the shortest of all ways, and of these the first -/
theorem FW_bs {M : tM} {S : Nat → Nat} {p a b m : Nat} (hab : a ≠ b) : (PA M S p b m 0 a (2 ^ a)).foldl bs none = match FW M S p a b m 1 with | none => none | some r => some r.2 := by
  cases hW : FW M S p a b m 1 with
  | none =>
    have h := FW_none m 1 hW
    have : PA M S p b m 0 a (2 ^ a) = [] := by
      apply List.eq_nil_iff_forall_not_mem.mpr
      intro q hq
      have hl := PA_len _ _ _ _ _ hq
      have h2 := h q.length (by omega) (by omega)
      rw [FF_find q.length m 0 a (2 ^ a) (by omega) hab, List.find?_eq_none] at h2
      exact h2 q hq (by simp)
    rw [this]
    rfl
  | some r =>
    obtain ⟨h1, h2, h3, h4⟩ := FW_some m 1 r hW
    rw [FF_find r.1 m 0 a (2 ^ a) (by omega) hab] at h3
    refine bs_find _ _ (fun r h => by cases h) h3 (fun q hq => ?_)
    have hl := PA_len _ _ _ _ _ hq
    by_cases c : r.1 ≤ q.length
    · exact c
    · have h5 := h4 q.length (by omega) (by omega)
      rw [FF_find q.length m 0 a (2 ^ a) (by omega) hab, List.find?_eq_none] at h5
      exact absurd (by simp) (h5 q hq)
theorem copyG {g : mM} {d : Nat} (hd : d < 6) (x1 x3 x4 : Int32) {N : Nat} (hN : 100 ≤ N) : ∃ g' : mM, lp_X10_firstWay_164 N x1 x3 x4 (nI d) N 0 g = some g' ∧ (∀ c, c ≠ 13 → g' c = g c) ∧ ∀ j, j < d + 1 → g' 13 j = g 11 j := by
  obtain ⟨s', e, h1, h2⟩ := for_ex (σ := mM) (fun n k s => lp_X10_firstWay_164 N x1 x3 x4 (nI d) n (nI k) s) (d + 1) (fun k s => (∀ c, c ≠ 13 → s c = g c) ∧ ∀ j, j < k → s 13 j = g 11 j) (fun s => some s)
    (fun n k s hk hI => by
      refine ⟨st2 s 13 k (g 11 k), ?_, fun c hc => (st2_c hc).trans (hI.1 c hc), fun j hj => ?_⟩
      · show lp_X10_firstWay_164 N x1 x3 x4 (nI d) (n + 1) (nI k) s = _
        rw [lp_X10_firstWay_164_s, if_neg (nI_nlt (by omega) (by omega)), gi_in _ (by omega) (by decide), gi_in _ (by omega) (by decide)]
        simp only [sq]
        rw [cl_nI (by omega), nI_1, hI.1 11 (by decide)]
      · by_cases c : j = k
        · rw [c, st2_e]
        · rw [st2_k c]; exact hI.2 j (by omega))
    (fun n s hI => by
      show lp_X10_firstWay_164 N x1 x3 x4 (nI d) (n + 1) (nI (d + 1)) s = _
      rw [lp_X10_firstWay_164_s, if_pos (nI_lt (by omega) (by omega))])
    (d + 1) 0 g N (by omega) ⟨fun _ _ => rfl, fun j hj => absurd hj (by omega)⟩ (by omega)
  exact ⟨s', e, h1, h2⟩
def Q1 (g0 : mM) (ps : List (List Nat)) (acc : Int32) (g : mM) : Prop := (∀ c, c ≠ 11 → c ≠ 12 → c ≠ 13 → g c = g0 c) ∧ match ps.foldl bs none with
  | none => acc = -9
  | some q => q.length ≤ 6 ∧ acc = nI q.length ∧ ∀ i, i < q.length → g 13 i = nI (q.getD i 0)
def G1 (N p b : Nat) (n : Nat) (x4 x5 : Int32) (f21 : mM) : Option (Int32 × mM) := if (f21 12 (Int32.toNatClampNeg (x5 + 1))) = nI b then sq (fun (_ : Unit) => sq (x5 + 1) (fun x4_27 => bi (lp_X10_firstWay_164 N (nI p) (nI b) x4_27 x5 N 0 f21) (fun f32 => lp_X10_firstWay_21 N (nI p) (nI b) n x4_27 x5 f32))) (fun k26 => if x4 = (-9) then k26 () else if x4 ≤ (x5 + 1) then lp_X10_firstWay_21 N (nI p) (nI b) n x4 x5 f21 else k26 ()) else sq (x5 + 1) (fun x5_23 => gi x5_23 6 (sq (st2 f21 11 (Int32.toNatClampNeg x5_23) (-1)) (fun f25 => lp_X10_firstWay_21 N (nI p) (nI b) n x4 x5_23 f25)))
theorem isL1 (N p b : Nat) : IsL N p (lp_X10_firstWay_21 N (nI p) (nI b)) (G1 N p b) := by
  intro n x4 x5 f
  rw [lp_X10_firstWay_21_s]
  rfl
theorem isP1 (N p : Nat) {b : Nat} (M : tM) (hb : b < 6) : IsP M b (lp_X10_firstWay_21 N (nI p) (nI b)) (G1 N p b) := by
  intro n acc d y g hd hy hyb h12 hg
  unfold G1
  simp only [sq]
  rw [nI_1, cl_nI (by omega), h12, if_neg (fun h => hyb ((nI_inj (by omega) (by omega)).mp h)), gi_in _ (by omega) (by decide)]
theorem isQ1 {g0 : mM} {M : tM} {S : Nat → Nat} (hg : TG g0 M) (h8 : ∀ k, k < 9 → g0 8 k = nI (S k)) : IsQ M S (Q1 g0) := by
  refine ⟨fun ps acc g g' h hq => ⟨fun c h1 h2 h3 => (h c h1 h2).trans (hq.1 c h1 h2 h3), ?_⟩, fun ps acc g hq => ⟨hg.go (fun c h1 h2 => hq.1 c (by omega) (by omega) (by omega)) (fun k _ _ => by rw [hq.1 0 (by decide) (by decide) (by decide)]), fun k hk => by rw [hq.1 8 (by decide) (by decide) (by decide)]; exact h8 k hk⟩⟩
  have h2 := hq.2
  rw [h 13 (by decide) (by decide)]
  exact h2
theorem isG1 {N p b K : Nat} {g0 : mM} (hN : 100 ≤ N) : IsG K b (Q1 g0) (lp_X10_firstWay_21 N (nI p) (nI b)) (G1 N p b) := by
  intro ps acc d pre g hd hpl hq _ h11 h9 h12
  obtain ⟨q1, q2⟩ := hq
  obtain ⟨g', e1, e2, e3⟩ := copyG (g := g) hd (nI p) (nI b) (nI (d + 1)) hN
  have hG : ∀ n, G1 N p b n acc (nI d) g = if acc = -9 then lp_X10_firstWay_21 N (nI p) (nI b) n (nI (d + 1)) (nI d) g' else if acc ≤ nI (d + 1) then lp_X10_firstWay_21 N (nI p) (nI b) n acc (nI d) g else lp_X10_firstWay_21 N (nI p) (nI b) n (nI (d + 1)) (nI d) g' := by
    intro n
    unfold G1
    simp only [sq]
    rw [nI_1, cl_nI (by omega), h12, if_pos rfl, e1, bi_some]
  have new : (∀ c, c ≠ 11 → c ≠ 12 → c ≠ 13 → g' c = g0 c) ∧ pre.length ≤ 6 ∧ nI (d + 1) = nI pre.length ∧ ∀ i, i < pre.length → g' 13 i = nI (pre.getD i 0) := by
    refine ⟨fun c h1 h2 h3 => (e2 c h3).trans (q1 c h1 h2 h3), by omega, by rw [hpl], fun i hi => ?_⟩
    rw [e3 i (by omega), h11 i (by omega)]
  unfold Q1
  rw [List.foldl_append]
  show ∃ acc' g', _ ∧ (_ ∧ match bs (ps.foldl bs none) pre with | none => _ | some q => _) ∧ _ ∧ _
  cases hf : ps.foldl bs none with
  | none =>
    rw [hf] at q2
    have q2 : acc = -9 := q2
    refine ⟨nI (d + 1), g', fun n => by rw [hG, if_pos q2], ⟨new.1, new.2⟩, e2 _ (by decide), e2 _ (by decide)⟩
  | some r =>
    rw [hf] at q2
    obtain ⟨l6, q2, q3⟩ := q2
    have hne : ¬ acc = -9 := by rw [q2, i_eq, nI_toInt (by omega), show (-9 : Int32).toInt = -9 from rfl]; omega
    by_cases c : pre.length < r.length
    · rw [show bs (some r) pre = some pre from if_pos c]
      refine ⟨nI (d + 1), g', fun n => by rw [hG, if_neg hne, q2, if_neg (nI_ge (by omega) (by omega))], ⟨new.1, new.2⟩, e2 _ (by decide), e2 _ (by decide)⟩
    · rw [show bs (some r) pre = some r from if_neg c]
      exact ⟨acc, g, fun n => by rw [hG, if_neg hne, q2, if_pos (nI_le (by omega) (by omega))], ⟨q1, l6, q2, q3⟩, rfl, rfl⟩
theorem cn_0 (n : Nat) : cn (fun z => Nat.testBit 0 z) n = 0 := by
  induction n with
  | zero => rfl
  | succ n ih =>
    show cn (fun z => Nat.testBit 0 z) n + (if Nat.testBit 0 n = true then 1 else 0) = 0
    rw [ih, Nat.zero_testBit]
    rfl
theorem cn_one {a n : Nat} (h : a < n) : cn (fun z => (2 ^ a).testBit z) n = 1 := by
  have := cn_or (B := 0) (y := a) (Nat.zero_testBit a) h
  rw [cn_0, Nat.zero_or] at this
  exact this
theorem CC_le : ∀ m, m ≤ 5 → CC m ≤ 132859 := by decide
theorem firstG {g : mM} {M : tM} {S : Nat → Nat} {p a b : Nat} (hw : WF M) (hp : p < M 0 2) (ha : a < M 0 0) (hbn : b < M 0 0) (hab : a ≠ b) (hS : ∀ k, k < 9 → S k ≤ 9) (hg : TG g M) (h8 : ∀ k, k < 9 → g 8 k = nI (S k)) {N : Nat} (hN : 1000000 ≤ N) : ∃ g' : mM, q_X10_firstWay N (nI p) (nI a) (nI b) g = some ((match FW M S p a b (M 0 0 - 1) 1 with | none => -9 | some r => nI r.1), g') ∧ (∀ c, c ≠ 11 → c ≠ 12 → c ≠ 13 → g' c = g c) ∧ ∀ r, FW M S p a b (M 0 0 - 1) 1 = some r → ∀ i, i < r.1 → g' 13 i = nI (r.2.getD i 0) := by
  have hb := hw.1
  obtain ⟨s, acc, g', r1, r2, r3, -, -⟩ := dfs_run (isL1 N p b) (isP1 N p M (by omega)) (isG1 (K := (PA M S p b (M 0 0 - 1) 0 a (2 ^ a)).length) (g0 := g) (by omega)) (isQ1 hg h8) hw hp hS (by omega) (M 0 0 - 1) 0 a (2 ^ a) (fun _ => a) [] [] (-9) (st2 (st2 g 12 0 (nI a)) 11 0 (-1)) (by omega) (by rw [cn_one ha]) rfl ha (fun e he => by omega)
    (fun y => by show _ = (false || decide (a = y)); rw [Nat.testBit_two_pow, Bool.false_or]) rfl (fun e he => absurd he (by omega)) (fun e he => by rw [st2_c (by decide), show e = 0 by omega, st2_e]) (fun e he => absurd he (by omega)) st2_e ⟨fun c h1 h2 h3 => by rw [st2_c h1, st2_c h2], rfl⟩ (by rw [List.length_nil]; omega)
  have hs := CC_le (M 0 0 - 1) (by omega)
  have hr2 := r2 (N - s - 1 + 1)
  rw [show N - s - 1 + 1 + s = N by omega, isL1 N p b, if_pos (show nI 0 - 1 < 0 by decide)] at hr2
  have hr2 : lp_X10_firstWay_21 N (nI p) (nI b) N (-9) 0 (st2 (st2 g 12 0 (nI a)) 11 0 (-1)) = some (acc, g') := hr2
  have hlist : ([] ++ (PA M S p b (M 0 0 - 1) 0 a (2 ^ a)).map (fun q => [] ++ q)) = PA M S p b (M 0 0 - 1) 0 a (2 ^ a) := by
    rw [List.nil_append]
    exact List.map_id _
  rw [hlist] at r3
  obtain ⟨r4, r5⟩ := r3
  rw [FW_bs hab] at r5
  refine ⟨g', ?_, r4, ?_⟩
  · unfold q_X10_firstWay
    rw [gi_lit _ (by decide)]
    simp only [sq]
    rw [gi_lit _ (by decide), show Int32.toNatClampNeg 0 = 0 from rfl, hr2, bi2_some]
    cases hW : FW M S p a b (M 0 0 - 1) 1 with
    | none =>
      rw [hW] at r5
      have r5 : acc = -9 := r5
      rw [r5]
    | some r =>
      rw [hW] at r5
      have h3 := (FW_some _ _ _ hW).2.2.1
      have r5 := r5.2.1
      rw [r5, FF_len _ _ _ _ _ h3]
  · intro r hr i hi
    rw [hr] at r5
    have h3 := (FW_some _ _ _ hr).2.2.1
    exact r5.2.2 i (by rw [FF_len _ _ _ _ _ h3]; exact hi)
