/-! memory: reading and writing -/
theorem st2_c {f : mM} {c k : Nat} {v : Int32} {d : Nat} (h : d ≠ c) : st2 f c k v d = f d := by
  unfold st2 va_up
  rw [if_neg h]
theorem st2_e {f : mM} {c k : Nat} {v : Int32} : st2 f c k v c k = v := by
  simp [st2, va_up, upd]
theorem st2_k {f : mM} {c k : Nat} {v : Int32} {j : Nat} (h : j ≠ k) : st2 f c k v c j = f c j := by
  simp [st2, va_up, upd, h]
theorem st2_at (f : mM) (c k : Nat) (v : Int32) (d j : Nat) : st2 f c k v d j = if d = c ∧ j = k then v else f d j := by
  by_cases h : d = c
  · subst h
    by_cases h2 : j = k
    · subst h2; simp [st2_e]
    · rw [st2_k h2]; simp [h2]
  · rw [st2_c h]; simp [h]
theorem cp2_c {f : mM} {a b n d : Nat} (h : d ≠ b) : cp2 f a b n d = f d := by
  unfold cp2 va_up
  rw [if_neg h]
theorem cp2_e {f : mM} {a b n j : Nat} (h : j < n) : cp2 f a b n b j = f a j := by
  simp [cp2, va_up, va_cpy, h]
theorem cp2_o {f : mM} {a b n j : Nat} (h : n ≤ j) : cp2 f a b n b j = f b j := by
  have : ¬ j < n := by omega
  simp [cp2, va_up, va_cpy, this]
/-! numbers -/
theorem i_lt (a b : Int32) : a < b ↔ a.toInt < b.toInt := Int32.lt_iff_toInt_lt
theorem i_le (a b : Int32) : a ≤ b ↔ a.toInt ≤ b.toInt := Int32.le_iff_toInt_le
theorem i_eq (a b : Int32) : a = b ↔ a.toInt = b.toInt := Int32.toInt_inj.symm
theorem i_0 : (0 : Int32).toInt = 0 := rfl
theorem nI_m1 {n : Nat} (h : n < 2 ^ 30) : (nI n - 1).toInt = (n : Int) - 1 := pk_sub_toInt (a := n) (b := 1) h (by omega)
theorem rz0 {β : Type} (k : Option β) : rz 0 k = k := by simp [rz]
theorem rz1 {β : Type} (k : Option β) : rz 1 k = k := by simp [rz]
theorem gi_in {β : Type} {i n : Nat} (k : Option β) (h : i < n) (hn : n < 2 ^ 31) : gi (nI i) n k = k := by
  unfold gi
  exact if_neg (vp_in_nI h hn)
theorem gi_lit {β : Type} {i : Int32} {n : Nat} (k : Option β) (h : ¬ (i < 0 ∨ n ≤ i.toNatClampNeg)) : gi i n k = k := by
  unfold gi
  exact if_neg h
theorem cl_nI {i : Nat} (h : i < 2 ^ 31) : Int32.toNatClampNeg (nI i) = i := nI_clamp h
theorem bi_some {α β : Type} (x : α) (k : α → Option β) : bi (some x) k = k x := rfl
theorem bi2_some {α α2 β : Type} (x : α) (y : α2) (k : α → α2 → Option β) : bi2 (some (x, y)) k = k x y := rfl
theorem bi3_some {α α2 α3 β : Type} (x : α) (y : α2) (z : α3) (k : α → α2 → α3 → Option β) : bi3 (some (x, y, z)) k = k x y z := rfl
theorem in_eq (x a b : Int32) : q_X10_in x a b = some (if a ≤ x ∧ x ≤ b then 1 else 0) := by
  unfold q_X10_in
  rw [rz0, rz1]
  by_cases h : x < a
  · rw [if_pos h, if_neg]
    rw [i_lt] at h
    rw [i_le, i_le]
    omega
  · rw [if_neg h]
    by_cases h2 : b < x
    · rw [if_pos h2, if_neg]
      rw [i_lt] at h2
      rw [i_le, i_le]
      omega
    · rw [if_neg h2, if_pos]
      rw [i_lt] at h h2
      rw [i_le, i_le]
      omega
theorem within_eq (x a b : Int32) : q_X9_isWithin x a b = some (if a ≤ x ∧ x ≤ b then 1 else 0) := in_eq x a b
/-- an index, tried by the class and by the reference: one answer -/
theorem idx_F (x : Int32) {n : Nat} (hn : n < 2 ^ 30) : ∃ v : Int32, (if x < 0 then rz 0 (some 0) else if nI n ≤ x then rz 0 (some 0) else rz 1 (some 1)) = some v ∧ q_X10_in x 0 (nI n - 1) = some v ∧ (v = 0 ∨ v = 1 ∧ ∃ k, k < n ∧ x = nI k) := by
  have h1 := nI_m1 hn
  have h2 : (nI n).toInt = n := nI_toInt (by omega)
  rw [rz0, rz1, in_eq]
  rcases pk_ix x (n := n) (by omega) with h | h | ⟨k, hk, rfl⟩
  · refine ⟨0, by rw [if_pos h], ?_, Or.inl rfl⟩
    rw [if_neg]
    rw [i_lt, i_0] at h
    rw [i_le, i_le, i_0]
    omega
  · refine ⟨0, ?_, ?_, Or.inl rfl⟩
    · rw [if_neg, if_pos h]
      rw [i_le] at h
      rw [i_lt, i_0]
      omega
    · rw [if_neg]
      rw [i_le] at h
      rw [i_le, i_le, i_0]
      omega
  · have h3 : (nI k).toInt = k := nI_toInt (by omega)
    refine ⟨1, ?_, ?_, Or.inr ⟨rfl, k, hk, rfl⟩⟩
    · rw [if_neg (nI_pos (by omega)), if_neg (nI_ge hk (by omega))]
    · rw [if_pos]
      rw [i_le, i_le, i_0]
      omega
/-! what belongs together -/
/-- the text -/
def IT (f g : mM) : Prop := ∃ L : Nat, L ≤ 300 ∧ f 1 1 = nI L ∧ g 0 3 = nI L ∧ ∀ j, j < L → ∃ c : Nat, c < 256 ∧ g 1 j = nI c ∧ f 2 j = (nI c).toInt8.toInt32
/-- tables: 0: 0 places 1 planks 2 people 3 errands; 1, 2 a plank's places; 4 weight 5 stride; 6 who 7 from 8 to -/
abbrev tM : Type := Nat → Nat → Nat
def WF (M : tM) : Prop := (2 ≤ M 0 0 ∧ M 0 0 ≤ 6 ∧ M 0 1 ≤ 9 ∧ M 0 2 ≤ 4 ∧ M 0 3 ≤ 3) ∧ (∀ k, k < M 0 1 → M 1 k < M 0 0 ∧ M 2 k < M 0 0 ∧ M 1 k ≠ M 2 k) ∧ (∀ p, p < M 0 2 → 1 ≤ M 4 p ∧ M 4 p ≤ 3 ∧ 1 ≤ M 5 p ∧ M 5 p ≤ 2) ∧ ∀ e, e < M 0 3 → M 6 e < M 0 2 ∧ M 7 e < M 0 0 ∧ M 8 e < M 0 0 ∧ M 7 e ≠ M 8 e
def TF (f : mM) (M : tM) : Prop := (f 3 0 = nI (M 0 0) ∧ f 3 1 = nI (M 0 1) ∧ f 3 2 = nI (M 0 2) ∧ f 3 3 = nI (M 0 3)) ∧ (∀ k, k < M 0 1 → f 4 k = nI (M 1 k) ∧ f 5 k = nI (M 2 k)) ∧ (∀ p, p < M 0 2 → f 7 p = nI (M 4 p) ∧ f 8 p = nI (M 5 p)) ∧ ∀ e, e < M 0 3 → f 9 e = nI (M 6 e) ∧ f 10 e = nI (M 7 e) ∧ f 11 e = nI (M 8 e)
def TG (g : mM) (M : tM) : Prop := (g 0 15 = nI (M 0 0) ∧ g 0 16 = nI (M 0 1) ∧ g 0 17 = nI (M 0 2) ∧ g 0 18 = nI (M 0 3)) ∧ (∀ k, k < M 0 1 → g 2 k = nI (M 1 k) ∧ g 3 k = nI (M 2 k)) ∧ (∀ p, p < M 0 2 → g 5 p = nI (M 4 p) ∧ g 6 p = nI (M 5 p)) ∧ ∀ e, e < M 0 3 → g 7 (3 * e) = nI (M 6 e) ∧ g 7 (3 * e + 1) = nI (M 7 e) ∧ g 7 (3 * e + 2) = nI (M 8 e)
/-- what planks bear: S; how many went under: w -/
def NS (np : Nat) (f g : mM) (c B o : Nat) (S : Nat → Nat) (w : Nat) : Prop := (∀ k, k < 9 → S k ≤ 9) ∧ (∀ k, np ≤ k → k < 9 → S k = 0) ∧ w ≤ 20 ∧ (∀ k, k < 9 → f (c + 1) k = nI (S k) ∧ g B (o + k) = nI (S k)) ∧ f c 3 = nI w ∧ g B (o + 9) = nI w ∧ ∀ i, i < w → f (c + 2) i = g B (o + 10 + 2 * i) ∧ f (c + 3) i = g B (o + 11 + 2 * i)
def NR (np : Nat) (f g : mM) (c B o : Nat) : Prop := ∃ (S : Nat → Nat) (w : Nat), NS np f g c B o S w
def IK (np : Nat) (f g : mM) (j c o : Nat) : Prop := ∃ z : Int32, f 36 j = z ∧ g 10 j = z ∧ (z = 0 ∨ z = 1 ∧ NR np f g c 9 o)
def Inv (f : mM) (t : Int64) (g : mM) (u : Int64) : Prop := t = u ∧ IT f g ∧ ∃ M : tM, WF M ∧ TF f M ∧ TG g M ∧ NR (M 0 1) f g 23 8 0 ∧ IK (M 0 1) f g 0 28 0 ∧ IK (M 0 1) f g 1 32 50
/-! what leaves a part as it was -/
theorem IT.go {f g f' g' : mM} (h : IT f g) (h1 : f' 1 1 = f 1 1) (h2 : f' 2 = f 2) (h3 : g' 0 3 = g 0 3) (h4 : g' 1 = g 1) : IT f' g' := by
  obtain ⟨L, hL, e1, e2, e3⟩ := h
  refine ⟨L, hL, by rw [h1, e1], by rw [h3, e2], ?_⟩
  rw [h2, h4]
  exact e3
theorem TF.go {f f' : mM} {M : tM} (h : TF f M) (hc : ∀ c, 3 ≤ c → c ≤ 11 → f' c = f c) : TF f' M := by
  unfold TF at h ⊢
  rw [hc 3 (by omega) (by omega), hc 4 (by omega) (by omega), hc 5 (by omega) (by omega), hc 7 (by omega) (by omega), hc 8 (by omega) (by omega), hc 9 (by omega) (by omega), hc 10 (by omega) (by omega), hc 11 (by omega) (by omega)]
  exact h
theorem TG.go {g g' : mM} {M : tM} (h : TG g M) (hc : ∀ c, 2 ≤ c → c ≤ 7 → g' c = g c) (h0 : ∀ k, 15 ≤ k → k ≤ 18 → g' 0 k = g 0 k) : TG g' M := by
  unfold TG at h ⊢
  rw [h0 15 (by omega) (by omega), h0 16 (by omega) (by omega), h0 17 (by omega) (by omega), h0 18 (by omega) (by omega), hc 2 (by omega) (by omega), hc 3 (by omega) (by omega), hc 5 (by omega) (by omega), hc 6 (by omega) (by omega), hc 7 (by omega) (by omega)]
  exact h
theorem NS.go {np : Nat} {f g f' g' : mM} {c B o : Nat} {S : Nat → Nat} {w : Nat} (h : NS np f g c B o S w) (h0 : f' c 3 = f c 3) (h1 : f' (c + 1) = f (c + 1)) (h2 : f' (c + 2) = f (c + 2)) (h3 : f' (c + 3) = f (c + 3)) (h4 : g' B = g B) : NS np f' g' c B o S w := by
  unfold NS at h ⊢
  rw [h0, h1, h2, h3, h4]
  exact h
theorem NR.go {np : Nat} {f g f' g' : mM} {c B o : Nat} (h : NR np f g c B o) (h0 : f' c 3 = f c 3) (h1 : f' (c + 1) = f (c + 1)) (h2 : f' (c + 2) = f (c + 2)) (h3 : f' (c + 3) = f (c + 3)) (h4 : g' B = g B) : NR np f' g' c B o := by
  obtain ⟨S, w, h⟩ := h
  exact ⟨S, w, h.go h0 h1 h2 h3 h4⟩
theorem IK.go {np : Nat} {f g f' g' : mM} {j c o : Nat} (h : IK np f g j c o) (hc : f' c 3 = f c 3) (h1 : f' (c + 1) = f (c + 1)) (h2 : f' (c + 2) = f (c + 2)) (h3 : f' (c + 3) = f (c + 3)) (h4 : g' 9 = g 9) (h5 : f' 36 j = f 36 j) (h6 : g' 10 j = g 10 j) : IK np f' g' j c o := by
  obtain ⟨z, e1, e2, e3⟩ := h
  refine ⟨z, by rw [h5, e1], by rw [h6, e2], ?_⟩
  rcases e3 with e3 | ⟨e3, e4⟩
  · exact Or.inl e3
  · exact Or.inr ⟨e3, e4.go hc h1 h2 h3 h4⟩
/-- the reference's own row 'thrown' is of no account -/
theorem Inv.thr {f : mM} {t : Int64} {g : mM} {u : Int64} (h : Inv f t g u) (v : Int32) : Inv f t (st2 g 0 0 v) u := by
  obtain ⟨h0, h1, M, h2, h3, h4, h5, h6, h7⟩ := h
  exact ⟨h0, h1.go rfl rfl (st2_k (by decide)) (st2_c (by decide)), M, h2, h3, h4.go (fun c h _ => st2_c (by omega)) (fun k h _ => st2_k (by omega)), h5.go rfl rfl rfl rfl (st2_c (by decide)), h6.go rfl rfl rfl rfl (st2_c (by decide)) rfl (by rw [st2_c (by decide)]), h7.go rfl rfl rfl rfl (st2_c (by decide)) rfl (by rw [st2_c (by decide)])⟩
theorem isPlankF {f g : mM} {M : tM} (hw : WF M) (hf : TF f M) (hg : TG g M) (x : Int32) : ∃ v : Int32, q_X2_isPlank x f = some v ∧ q_X10_isPlank x g = some v ∧ (v = 0 ∨ v = 1 ∧ ∃ k, k < M 0 1 ∧ x = nI k) := by
  obtain ⟨v, h1, h2, h3⟩ := idx_F x (n := M 0 1) (by have := hw.1; omega)
  refine ⟨v, ?_, ?_, h3⟩
  · unfold q_X2_isPlank
    rw [hf.1.2.1]
    exact h1
  · unfold q_X10_isPlank
    rw [hg.1.2.1, h2, bi_some]
    rcases h3 with rfl | ⟨rfl, -⟩
    · exact rz0 _
    · exact rz1 _
theorem isPersonF {f g : mM} {M : tM} (hw : WF M) (hf : TF f M) (hg : TG g M) (x : Int32) : ∃ v : Int32, q_X2_isPerson x f = some v ∧ q_X10_isPerson x g = some v ∧ (v = 0 ∨ v = 1 ∧ ∃ k, k < M 0 2 ∧ x = nI k) := by
  obtain ⟨v, h1, h2, h3⟩ := idx_F x (n := M 0 2) (by have := hw.1; omega)
  refine ⟨v, ?_, ?_, h3⟩
  · unfold q_X2_isPerson
    rw [hf.1.2.2.1]
    exact h1
  · unfold q_X10_isPerson
    rw [hg.1.2.2.1, h2, bi_some]
    rcases h3 with rfl | ⟨rfl, -⟩
    · exact rz0 _
    · exact rz1 _
