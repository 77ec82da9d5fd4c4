/-! how many ways there are at most -/
def sc (P : Nat → Bool) : Nat → Nat → Nat
  | 0, _ => 0
  | c + 1, k => (if P k then 1 else 0) + sc P c (k + 1)
theorem sc_le (P : Nat → Bool) : ∀ c k, sc P c k ≤ c := by
  intro c
  induction c with
  | zero => intro k; exact Nat.le_refl _
  | succ c ih =>
    intro k
    have := ih (k + 1)
    show (if P k = true then 1 else 0) + sc P c (k + 1) ≤ c + 1
    split <;> omega
theorem sc_add {P Q R : Nat → Bool} {n : Nat} (h : ∀ k, k < n → (if P k then 1 else 0) + (if Q k then 1 else 0) ≤ (if R k then 1 else 0)) : ∀ c k, k + c = n → sc P c k + sc Q c k ≤ sc R c k := by
  intro c
  induction c with
  | zero => intro k _; exact Nat.le_refl _
  | succ c ih =>
    intro k hk
    have h1 := ih (k + 1) (by omega)
    have h2 := h k (by omega)
    show (if P k = true then 1 else 0) + sc P c (k + 1) + ((if Q k = true then 1 else 0) + sc Q c (k + 1)) ≤ (if R k = true then 1 else 0) + sc R c (k + 1)
    omega
theorem pal_len {stq : Nat → Option Nat} {sub : Nat → List (List Nat)} {Z n : Nat} (h : ∀ j y, j < n → stq j = some y → (sub y).length ≤ Z) : ∀ c k, k + c = n → (pal stq sub c k).length ≤ sc (fun j => (stq j).isSome) c k * Z := by
  intro c
  induction c with
  | zero => intro k _; exact Nat.zero_le _
  | succ c ih =>
    intro k hk
    have h1 := ih (k + 1) (by omega)
    show (match stq k with | none => pal stq sub c (k + 1) | some y => (sub y).map (fun q => k :: q) ++ pal stq sub c (k + 1)).length ≤ ((if (stq k).isSome = true then 1 else 0) + sc (fun j => (stq j).isSome) c (k + 1)) * Z
    cases hs : stq k with
    | none =>
      simp only [Option.isSome_none]
      rw [if_neg (by decide), Nat.zero_add]
      exact h1
    | some y =>
      have h2 := h k y (by omega) hs
      simp only [Option.isSome_some]
      rw [if_pos trivial, List.length_append, List.length_map, Nat.add_mul, Nat.one_mul]
      omega
def al (M : tM) (B k : Nat) : Bool := !B.testBit (M 1 k) && !B.testBit (M 2 k)
theorem PA_many {M : tM} {S : Nat → Nat} {p b : Nat} : ∀ m d x B, B.testBit x = false → (PA M S p b m d x (B ||| 2 ^ x)).length ≤ 2 ^ sc (al M B) (M 0 1) 0 := by
  intro m
  induction m with
  | zero => intro d x B _; exact Nat.zero_le _
  | succ m ih =>
    intro d x B hx
    have h1 := pal_len (stq := stp M S p d x (B ||| 2 ^ x)) (sub := fun y => if y = b then [[]] else PA M S p b m (d + 1) y ((B ||| 2 ^ x) ||| 2 ^ y)) (Z := 2 ^ sc (al M (B ||| 2 ^ x)) (M 0 1) 0) (n := M 0 1) (fun j y hj hy => by
      show (if y = b then [[]] else PA M S p b m (d + 1) y ((B ||| 2 ^ x) ||| 2 ^ y)).length ≤ _
      by_cases c : y = b
      · rw [if_pos c]; exact Nat.one_le_two_pow
      · rw [if_neg c]
        exact ih (d + 1) y (B ||| 2 ^ x) (stp_some hy).2.1) (M 0 1) 0 (Nat.zero_add _)
    have h2 := sc_add (P := fun j => (stp M S p d x (B ||| 2 ^ x) j).isSome) (Q := al M (B ||| 2 ^ x)) (R := al M B) (n := M 0 1) (fun k hk => by
      have hb : ∀ z, (B ||| 2 ^ x).testBit z = (B.testBit z || decide (x = z)) := fun z => congrFun (bit_or B x) z
      cases hs : stp M S p d x (B ||| 2 ^ x) k with
      | none =>
        simp only [Option.isSome_none]
        rw [if_neg (by decide), Nat.zero_add]
        by_cases c : al M (B ||| 2 ^ x) k = true
        · rw [if_pos c]
          unfold al at c
          rw [hb, hb] at c
          have : al M B k = true := by
            unfold al
            simp only [Bool.and_eq_true, Bool.not_eq_true', Bool.or_eq_false_iff] at c ⊢
            exact ⟨c.1.1, c.2.1⟩
          rw [if_pos this]
          exact Nat.le_refl _
        · rw [if_neg c]; exact Nat.zero_le _
      | some y =>
        obtain ⟨a1, a2, -⟩ := stp_some hs
        rw [hb] at a2
        have a2 : B.testBit y = false ∧ ¬ x = y := by simpa using a2
        simp only [Option.isSome_some]
        have h3 : al M (B ||| 2 ^ x) k = false := by
          unfold al
          rw [hb, hb]
          rcases acr_ends a1 with ⟨e1, e2⟩ | ⟨e1, e2⟩
          · rw [e1]; simp
          · rw [e1]; simp
        have h4 : al M B k = true := by
          unfold al
          rcases acr_ends a1 with ⟨e1, e2⟩ | ⟨e1, e2⟩
          · rw [e1, e2, hx, a2.1]; rfl
          · rw [e1, e2, hx, a2.1]; rfl
        rw [h3, h4]
        decide) (M 0 1) 0 (Nat.zero_add _)
    show (pal _ _ _ _).length ≤ _
    have h5 : sc (fun j => (stp M S p d x (B ||| 2 ^ x) j).isSome) (M 0 1) 0 ≤ 2 ^ sc (fun j => (stp M S p d x (B ||| 2 ^ x) j).isSome) (M 0 1) 0 := Nat.le_of_lt Nat.lt_two_pow_self
    have h6 := Nat.mul_le_mul_right (2 ^ sc (al M (B ||| 2 ^ x)) (M 0 1) 0) h5
    rw [← Nat.pow_add] at h6
    exact Nat.le_trans h1 (Nat.le_trans h6 (Nat.pow_le_pow_right (by omega) h2))
theorem PA_512 {M : tM} (hw : WF M) {S : Nat → Nat} {p b m d x : Nat} : (PA M S p b m d x (2 ^ x)).length ≤ 512 := by
  have h := PA_many (M := M) (S := S) (p := p) (b := b) m d x 0 (Nat.zero_testBit x)
  rw [Nat.zero_or] at h
  have h1 := sc_le (al M 0) (M 0 1) 0
  exact Nat.le_trans h (p512 (by have := hw.1; omega))
/-! the reference lists the ways: which planks, which are trodden -/
def gsN (q : List Nat) : Nat → Nat
  | 0 => 0
  | i + 1 => gsN q i ||| 2 ^ q.getD i 0
def hsN (M : tM) (p : Nat) (q : List Nat) : Nat → Nat
  | 0 => 0
  | i + 1 => if 1 ≤ tk M p i then hsN M p q i ||| 2 ^ q.getD i 0 else hsN M p q i
theorem list173 {g : mM} {M : tM} (hw : WF M) (hg : TG g M) {p d : Nat} (hp : p < M 0 2) (hd : d < 6) {pre : List Nat} (h11 : ∀ e, e < d + 1 → g 11 e = nI (pre.getD e 0)) (h9 : ∀ e, e < d + 1 → pre.getD e 0 < 9) (x1 x3 : Int32) {N : Nat} (hN : 100 ≤ N) : lp_X10_listsWays_173 N x1 (nI p) x3 (nI d) g N 0 0 0 = some (nI (gsN pre (d + 1)), nI (hsN M p pre (d + 1))) := by
  have hb := hw.1
  obtain ⟨s', e, h1, h2⟩ := for_ex (σ := Nat × Nat) (fun n k r => lp_X10_listsWays_173 N x1 (nI p) x3 (nI d) g n (nI r.1) (nI r.2) (nI k)) (d + 1) (fun k r => r.1 = gsN pre k ∧ r.2 = hsN M p pre k) (fun r => some (nI r.1, nI r.2))
    (fun n k r hk hI => by
      obtain ⟨r1, r2⟩ := r
      obtain ⟨i1, i2⟩ := hI
      have i1 : r1 = _ := i1
      have i2 : r2 = _ := i2
      have a9 := h9 k hk
      have ht := tk_le hw hp k
      refine ⟨(gsN pre (k + 1), hsN M p pre (k + 1)), ?_, rfl, rfl⟩
      show lp_X10_listsWays_173 N x1 (nI p) x3 (nI d) g (n + 1) (nI r1) (nI r2) (nI k) = lp_X10_listsWays_173 N x1 (nI p) x3 (nI d) g n (nI (gsN pre k ||| 2 ^ pre.getD k 0)) (nI (if 1 ≤ tk M p k then hsN M p pre k ||| 2 ^ pre.getD k 0 else hsN M p pre k)) (nI (k + 1))
      rw [lp_X10_listsWays_173_s, if_neg (nI_nlt (by omega) (by omega)), gi_in _ (by omega) (by decide)]
      simp only [sq]
      rw [takenG hw hg hp (by omega), bi_some, gi_in _ (by omega) (by decide), cl_nI (by omega), h11 k hk, sh_l (by omega), or_nI, or_nI, nI_1, show nI r2 ||| 0 = nI r2 from by have := or_nI r2 0; rwa [Nat.or_zero] at this, i1, i2]
      by_cases c : 1 ≤ tk M p k
      · rw [if_neg (nI_nle (by omega) (by omega)), if_pos c]
      · rw [show tk M p k = 0 by omega, if_pos (by decide), if_neg (by decide)])
    (fun n r hI => by
      show lp_X10_listsWays_173 N x1 (nI p) x3 (nI d) g (n + 1) (nI r.1) (nI r.2) (nI (d + 1)) = _
      rw [lp_X10_listsWays_173_s, if_pos (nI_lt (by omega) (by omega))])
    (d + 1) 0 (0, 0) N (by omega) ⟨rfl, rfl⟩ (by omega)
  rw [show lp_X10_listsWays_173 N x1 (nI p) x3 (nI d) g N 0 0 0 = _ from e, h1, h2]
def Q2 (g0 : mM) (M : tM) (e : Nat) (ps : List (List Nat)) (acc : Int32) (g : mM) : Prop := (∀ c, c ≠ 11 → c ≠ 12 → c ≠ 14 → c ≠ 15 → g c = g0 c) ∧ acc = nI ps.length ∧ (∀ i, i < ps.length → g 14 (1000 * e + i) = nI (gsN (ps.getD i []) (ps.getD i []).length) ∧ g 15 (1000 * e + i) = nI (hsN M (M 6 e) (ps.getD i []) (ps.getD i []).length)) ∧ ∀ j, j < 1000 * e → g 14 j = g0 14 j ∧ g 15 j = g0 15 j
def G2 (N e p : Nat) (n : Nat) (x3 x4 : Int32) (f24 : mM) : Option (Int32 × mM) := gi ((3 * nI e) + 2) 18 (if (f24 12 (Int32.toNatClampNeg (x4 + 1))) = (f24 7 (Int32.toNatClampNeg ((3 * nI e) + 2))) then bi2 (lp_X10_listsWays_173 N (nI e) (nI p) x3 x4 f24 N 0 0 0) (fun y39 y40 => gi ((1000 * nI e) + x3) 3000 (sq (st2 f24 14 (Int32.toNatClampNeg ((1000 * nI e) + x3)) y39) (fun f43 => gi ((1000 * nI e) + x3) 3000 (sq (st2 f43 15 (Int32.toNatClampNeg ((1000 * nI e) + x3)) y40) (fun f45 => sq (x3 + 1) (fun x3_46 => lp_X10_listsWays_37 N (nI e) (nI p) n x3_46 x4 f45)))))) else sq (x4 + 1) (fun x4_27 => gi x4_27 6 (sq (st2 f24 11 (Int32.toNatClampNeg x4_27) (-1)) (fun f29 => lp_X10_listsWays_37 N (nI e) (nI p) n x3 x4_27 f29))))
theorem isL2 (N e p : Nat) : IsL N p (lp_X10_listsWays_37 N (nI e) (nI p)) (G2 N e p) := by
  intro n x4 x5 f
  rw [lp_X10_listsWays_37_s]
  rfl
theorem isP2 {M : tM} (hw : WF M) (N : Nat) {e : Nat} (he : e < M 0 3) : IsP M (M 8 e) (lp_X10_listsWays_37 N (nI e) (nI (M 6 e))) (G2 N e (M 6 e)) := by
  intro n acc d y g hd hy hyb h12 hg
  have hb := hw.1
  have a3 := hw.2.2.2 e he
  unfold G2
  simp only [sq]
  rw [nI_3, show nI (3 * e) + 2 = nI (3 * e + 2) from nI_add _ 2, gi_in _ (by omega) (by decide), nI_1, cl_nI (by omega), cl_nI (by omega), h12, (hg.2.2.2 e he).2.2, if_neg (fun h => hyb ((nI_inj (by omega) (by omega)).mp h)), gi_in _ (by omega) (by decide)]
theorem Q2_tg {g0 : mM} {M : tM} {e : Nat} {ps : List (List Nat)} {acc : Int32} {g : mM} (hg : TG g0 M) (hq : Q2 g0 M e ps acc g) : TG g M := hg.go (fun c h1 h2 => hq.1 c (by omega) (by omega) (by omega) (by omega)) (fun k _ _ => by rw [hq.1 0 (by decide) (by decide) (by decide) (by decide)])
theorem isQ2 {g0 : mM} {M : tM} {S : Nat → Nat} {e : Nat} (hg : TG g0 M) (h8 : ∀ k, k < 9 → g0 8 k = nI (S k)) : IsQ M S (Q2 g0 M e) := by
  refine ⟨fun ps acc g g' h hq => ?_, fun ps acc g hq => ⟨Q2_tg hg hq, fun k hk => by rw [hq.1 8 (by decide) (by decide) (by decide) (by decide)]; exact h8 k hk⟩⟩
  obtain ⟨h1, h2, h3, h4⟩ := hq
  refine ⟨fun c a b c1 d => (h c a b).trans (h1 c a b c1 d), h2, ?_, ?_⟩
  · rw [h 14 (by decide) (by decide), h 15 (by decide) (by decide)]; exact h3
  · rw [h 14 (by decide) (by decide), h 15 (by decide) (by decide)]; exact h4
theorem getD_last {α : Type} (ps : List α) (q x : α) (i : Nat) : (ps ++ [q]).getD i x = if i = ps.length then q else ps.getD i x := by
  rw [List.getD_eq_getElem?_getD, List.getD_eq_getElem?_getD, List.getElem?_append]
  by_cases c : i < ps.length
  · rw [if_pos c, if_neg (by omega)]
  · rw [if_neg c]
    by_cases c2 : i = ps.length
    · rw [if_pos c2, c2, Nat.sub_self]; rfl
    · rw [if_neg c2, List.getElem?_eq_none (by simp; omega), List.getElem?_eq_none (by omega)]
theorem isG2 {M : tM} (hw : WF M) {N e : Nat} (he : e < M 0 3) {g0 : mM} (hg0 : TG g0 M) (hN : 100 ≤ N) : IsG 512 (M 8 e) (Q2 g0 M e) (lp_X10_listsWays_37 N (nI e) (nI (M 6 e))) (G2 N e (M 6 e)) := by
  intro ps acc d pre g hd hpl hq hK h11 h9 h12
  have hb := hw.1
  have a3 := hw.2.2.2 e he
  have hg := Q2_tg hg0 hq
  obtain ⟨q1, q2, q3, q4⟩ := hq
  refine ⟨nI (ps.length + 1), st2 (st2 g 14 (1000 * e + ps.length) (nI (gsN pre (d + 1)))) 15 (1000 * e + ps.length) (nI (hsN M (M 6 e) pre (d + 1))), fun n => ?_, ⟨fun c h1 h2 h3 h4 => by rw [st2_c h4, st2_c h3]; exact q1 c h1 h2 h3 h4, by rw [List.length_append]; rfl, fun i hi => ?_, fun j hj => ?_⟩, by rw [st2_c (by decide), st2_c (by decide)], by rw [st2_c (by decide), st2_c (by decide)]⟩
  · unfold G2
    simp only [sq]
    rw [nI_3, show nI (3 * e) + 2 = nI (3 * e + 2) from nI_add _ 2, gi_in _ (by omega) (by decide), nI_1, cl_nI (by omega), cl_nI (by omega), h12, (hg.2.2.2 e he).2.2, if_pos rfl, list173 hw hg a3.1 hd h11 h9 _ _ hN, bi2_some, q2, show (1000 : Int32) * nI e = nI (1000 * e) from pk_mul 1000 e, nI_add, gi_in _ (by omega) (by decide), gi_in _ (by omega) (by decide), cl_nI (by omega), nI_1]
  · rw [List.length_append] at hi
    have hi : i < ps.length + 1 := hi
    rw [getD_last, st2_c (show (14 : Nat) ≠ 15 by decide)]
    by_cases c : i = ps.length
    · rw [if_pos c, c, st2_e, st2_e, hpl]
      exact ⟨rfl, rfl⟩
    · rw [if_neg c, st2_k (by omega), st2_k (by omega), st2_c (show (15 : Nat) ≠ 14 by decide)]
      exact q3 i (by omega)
  · rw [st2_c (show (14 : Nat) ≠ 15 by decide), st2_k (by omega), st2_k (by omega), st2_c (show (15 : Nat) ≠ 14 by decide)]
    exact q4 j hj
def WL (M : tM) (S : Nat → Nat) (e : Nat) : List (List Nat) := PA M S (M 6 e) (M 8 e) (M 0 0 - 1) 0 (M 7 e) (2 ^ M 7 e)
def WD (g : mM) (M : tM) (S : Nat → Nat) (e : Nat) : Prop := g 16 e = nI (WL M S e).length ∧ ∀ i, i < (WL M S e).length → g 14 (1000 * e + i) = nI (gsN ((WL M S e).getD i []) ((WL M S e).getD i []).length) ∧ g 15 (1000 * e + i) = nI (hsN M (M 6 e) ((WL M S e).getD i []) ((WL M S e).getD i []).length)
theorem listsG {g : mM} {M : tM} {S : Nat → Nat} (hw : WF M) (hS : ∀ k, k < 9 → S k ≤ 9) (hg : TG g M) (h8 : ∀ k, k < 9 → g 8 k = nI (S k)) {e : Nat} (he : e < M 0 3) {N : Nat} (hN : 1000000 ≤ N) : ∃ g' : mM, q_X10_listsWays N (nI e) g = some g' ∧ (∀ c, c ≠ 11 → c ≠ 12 → c ≠ 14 → c ≠ 15 → c ≠ 16 → g' c = g c) ∧ WD g' M S e ∧ (∀ j, j < 1000 * e → g' 14 j = g 14 j ∧ g' 15 j = g 15 j) ∧ ∀ j, j ≠ e → g' 16 j = g 16 j := by
  have hb := hw.1
  have a3 := hw.2.2.2 e he
  have b3 := hg.2.2.2 e he
  obtain ⟨s, acc, g', r1, r2, r3, -, -⟩ := dfs_run (isL2 N e (M 6 e)) (isP2 hw N he) (isG2 hw he (g0 := g) hg (by omega)) (isQ2 hg h8) hw a3.1 hS (by omega) (M 0 0 - 1) 0 (M 7 e) (2 ^ M 7 e) (fun _ => M 7 e) [] [] 0 (st2 (st2 g 12 0 (nI (M 7 e))) 11 0 (-1)) (by omega) (by rw [cn_one a3.2.1]) rfl a3.2.1 (fun e he => by omega)
    (fun y => by show _ = (false || decide (M 7 e = y)); rw [Nat.testBit_two_pow, Bool.false_or]) rfl (fun e he => absurd he (by omega)) (fun e he => by rw [st2_c (by decide), show e = 0 by omega, st2_e]) (fun e he => absurd he (by omega)) st2_e ⟨fun c h1 h2 h3 h4 => by rw [st2_c h1, st2_c h2], rfl, fun i hi => absurd hi (by simp), fun j hj => by rw [st2_c (by decide), st2_c (by decide), st2_c (by decide), st2_c (by decide)]; exact ⟨rfl, rfl⟩⟩ (by rw [List.length_nil]; have := PA_512 (S := S) (p := M 6 e) (b := M 8 e) (m := M 0 0 - 1) (d := 0) (x := M 7 e) hw; omega)
  have hs := CC_le (M 0 0 - 1) (by omega)
  have hr2 := r2 (N - s - 1 + 1)
  rw [show N - s - 1 + 1 + s = N by omega, isL2 N e (M 6 e), if_pos (show nI 0 - 1 < 0 by decide)] at hr2
  have hr2 : lp_X10_listsWays_37 N (nI e) (nI (M 6 e)) N 0 0 (st2 (st2 g 12 0 (nI (M 7 e))) 11 0 (-1)) = some (acc, g') := hr2
  have hlist : ([] ++ (PA M S (M 6 e) (M 8 e) (M 0 0 - 1) 0 (M 7 e) (2 ^ M 7 e)).map (fun q => [] ++ q)) = WL M S e := by
    rw [List.nil_append]
    exact List.map_id _
  rw [hlist] at r3
  obtain ⟨r4, r5, r6, r7⟩ := r3
  refine ⟨st2 g' 16 e acc, ?_, fun c h1 h2 h3 h4 h5 => by rw [st2_c h5]; exact r4 c h1 h2 h3 h4, ⟨by rw [st2_e, r5], fun i hi => ?_⟩, fun j hj => ?_, fun j hj => by rw [st2_k hj, r4 16 (by decide) (by decide) (by decide) (by decide)]⟩
  · unfold q_X10_listsWays
    simp only [sq]
    rw [nI_3, show nI (3 * e) + 1 = nI (3 * e + 1) from nI_1 _, gi_in _ (by omega) (by decide), gi_in _ (by omega) (by decide), cl_nI (by omega), cl_nI (by omega), gi_lit _ (by decide), gi_lit _ (by decide), show Int32.toNatClampNeg 0 = 0 from rfl, b3.1, b3.2.1, hr2, bi2_some, gi_in _ (by omega) (by decide), cl_nI (by omega)]
  · rw [st2_c (by decide), st2_c (by decide)]
    exact r6 i hi
  · rw [st2_c (by decide), st2_c (by decide)]
    exact r7 j hj
theorem lists23 {g : mM} {M : tM} {S : Nat → Nat} (hw : WF M) (hS : ∀ k, k < 9 → S k ≤ 9) (hg : TG g M) (h8 : ∀ k, k < 9 → g 8 k = nI (S k)) {N : Nat} (hN : 1000000 ≤ N) : ∃ g' : mM, lp_X10_leastTaken_23 N N 0 g = some g' ∧ (∀ c, c ≠ 11 → c ≠ 12 → c ≠ 14 → c ≠ 15 → c ≠ 16 → g' c = g c) ∧ ∀ e, e < M 0 3 → WD g' M S e := by
  have hb := hw.1
  obtain ⟨s', e, h1, h2⟩ := for_ex (σ := mM) (fun n k s => lp_X10_leastTaken_23 N n (nI k) s) (M 0 3) (fun k s => (∀ c, c ≠ 11 → c ≠ 12 → c ≠ 14 → c ≠ 15 → c ≠ 16 → s c = g c) ∧ ∀ e, e < k → WD s M S e) (fun s => some s)
    (fun n k s hk hI => by
      have hsg : TG s M := hg.go (fun c h1 h2 => hI.1 c (by omega) (by omega) (by omega) (by omega) (by omega)) (fun j _ _ => by rw [hI.1 0 (by decide) (by decide) (by decide) (by decide) (by decide)])
      obtain ⟨g', d1, d2, d3, d4, d5⟩ := listsG (S := S) hw hS hsg (fun j hj => by rw [hI.1 8 (by decide) (by decide) (by decide) (by decide) (by decide)]; exact h8 j hj) hk hN
      refine ⟨g', ?_, fun c h1 h2 h3 h4 h5 => (d2 c h1 h2 h3 h4 h5).trans (hI.1 c h1 h2 h3 h4 h5), fun e he => ?_⟩
      · show lp_X10_leastTaken_23 N (n + 1) (nI k) s = _
        rw [lp_X10_leastTaken_23_s, hsg.1.2.2.2, if_neg (nI_ge hk (by omega)), d1, bi_some]
        simp only [sq]
        rw [nI_1]
      · by_cases c : e = k
        · rw [c]; exact d3
        · obtain ⟨w1, w2⟩ := hI.2 e (by omega)
          refine ⟨by rw [d5 e c]; exact w1, fun i hi => ?_⟩
          have hlen := PA_512 (S := S) (p := M 6 e) (b := M 8 e) (m := M 0 0 - 1) (d := 0) (x := M 7 e) hw
          have hi2 : i < 512 := Nat.lt_of_lt_of_le hi hlen
          rw [(d4 (1000 * e + i) (by omega)).1, (d4 (1000 * e + i) (by omega)).2]
          exact w2 i hi)
    (fun n s hI => by
      show lp_X10_leastTaken_23 N (n + 1) (nI (M 0 3)) s = _
      rw [lp_X10_leastTaken_23_s, hI.1 0 (by decide) (by decide) (by decide) (by decide) (by decide), hg.1.2.2.2, if_pos (Int32.le_refl _)])
    (M 0 3) 0 g N (by omega) ⟨fun _ _ _ _ _ _ => rfl, fun e he => absurd he (by omega)⟩ (by omega)
  exact ⟨s', e, h1, h2⟩
