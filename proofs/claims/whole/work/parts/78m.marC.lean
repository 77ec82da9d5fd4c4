/-! one token: K 0 wrong, 1 end, 2 semicolon, 3 number, 4 .. 7 words; its place s, the place behind it b, its value v -/
def rk (K : Nat) : Nat := if K = 0 then 4 else if K = 1 then 0 else if K = 2 then 3 else if K = 3 then 2 else 1
def CF (f : mM) (K s b v : Nat) : Prop := f 12 2 = nI K ∧ f 12 3 = nI s ∧ (K ≠ 1 → f 12 4 = nI b) ∧ (K = 3 → f 12 5 = nI v)
def CG (g : mM) (K s b v : Nat) : Prop := g 0 5 = nI (rk K) ∧ g 0 6 = nI s ∧ (K ≠ 1 → g 0 4 = nI b) ∧ (K = 3 → g 0 7 = nI v) ∧ (4 ≤ K → g 0 7 = nI (K - 4))
def AG (g g' : mM) : Prop := (∀ c, c ≠ 0 → g' c = g c) ∧ ∀ k, k < 4 ∨ 8 ≤ k → g' 0 k = g 0 k
theorem AG.st {g h : mM} (hA : AG g h) {k : Nat} {v : Int32} (h1 : 4 ≤ k) (h2 : k ≤ 7) : AG g (st2 h 0 k v) := ⟨fun c hc => by rw [st2_c hc]; exact hA.1 c hc, fun j hj => by rw [st2_k (by omega)]; exact hA.2 j hj⟩
def TokF (N L : Nat) (B : Nat → Nat) (i K s b v : Nat) : Prop := ∀ f : mM, TxF f L B → f 12 4 = nI i → ∃ f', q_X4_readToken N f = some f' ∧ (∀ c, c ≠ 12 → f' c = f c) ∧ CF f' K s b v
def TokG (N L : Nat) (B : Nat → Nat) (i K s b v : Nat) : Prop := ∀ g : mM, TxG g L B → g 0 4 = nI i → ∃ g', q_X10_advances N g = some g' ∧ AG g g' ∧ CG g' K s b v
def Tk (N L : Nat) (B : Nat → Nat) (i K s b v : Nat) : Prop := TokF N L B i K s b v ∧ TokG N L B i K s b v ∧ i ≤ s ∧ s ≤ L ∧ K ≤ 7 ∧ (K ≠ 1 → s < b ∧ b ≤ L) ∧ (K = 3 → v ≤ 99)
def rT (N : Nat) (y7 : Int32) (f9 : mM) : Option mM := if y7 = (-1) then sq (st2 f9 12 2 1) (fun f24 => some f24) else if y7 = 59 then sq (st2 f9 12 2 2) (fun f23 => some f23) else bi (q_X4_isDigit y7) (fun y10 => if y10 = 0 then bi (q_X4_isLetter y7) (fun y12 => if y12 = 0 then sq (st2 f9 12 2 0) (fun f14 => some f14) else bi2 (q_X4_lettersToken N f9) (fun y15 f16 => sq (st2 f16 12 2 y15) (fun f18 => some f18))) else bi2 (q_X4_digitsToken N f9) (fun y19 f20 => sq (st2 f20 12 2 y19) (fun f22 => some f22)))
def aT (N : Nat) (y7 : Int32) (f6 : mM) : Option mM := if 0 ≤ y7 then bi (q_X10_in y7 97 122) (fun y9 => if y9 = 0 then bi (q_X10_in y7 48 57) (fun y11 => if y11 = 0 then sq (st2 f6 0 4 ((f6 0 4) + 1)) (fun f13 => sq (fun (v14 : Int32) => sq (st2 f13 0 5 v14) (fun f16 => some f16)) (fun k15 => if y7 = 59 then k15 3 else k15 4)) else sq (st2 f6 0 7 0) (fun f17 => bi (lp_X10_advances_175 N y7 N f17) (fun f28 => sq (fun (v30 : Int32) => sq (st2 f28 0 5 v30) (fun f32 => some f32)) (fun k31 => if 99 < (f28 0 7) then k31 4 else sq (fun (_ : Unit) => k31 2) (fun k33 => if y7 = 48 then if ((f28 0 4) - (f28 0 6)) ≤ 1 then k33 () else k31 4 else k33 ()))))) else bi2 (lp_X10_advances_68 N N 0 f6) (fun y45 f46 => bi (q_X10_wordOf y45) (fun y48 => sq (st2 f46 0 7 y48) (fun f50 => sq (fun (v51 : Int32) => sq (st2 f50 0 5 v51) (fun f53 => some f53)) (fun k52 => if (f50 0 7) = (-9) then k52 4 else k52 1))))) else sq (st2 f6 0 5 0) (fun f54 => some f54)
theorem tokF0 {f : mM} {L : Nat} {B : Nat → Nat} (hB : TxB L B) (h : TxF f L B) {i s : Nat} (h1 : i ≤ s) (h2 : s ≤ L) (h3 : ∀ j, i ≤ j → j < s → B j = 32) (h4 : s < L → ¬ B s = 32) (hi : f 12 4 = nI i) {N : Nat} (hN : 1000 ≤ N) : ∃ f9, q_X4_readToken N f = rT N (bv L B s) f9 ∧ (∀ c, c ≠ 12 → f9 c = f c) ∧ f9 12 3 = nI s ∧ f9 12 4 = nI (s + 1) := by
  have hL := hB.1
  have h' : TxF (st2 f 12 3 (f 12 4)) L B := h.mv (st2_c (by decide)) (st2_c (by decide))
  obtain ⟨f5, e, e1, e2⟩ := blankF hB h' h1 h2 h3 h4 (st2_e.trans hi) hN
  have e1 : ∀ c, c ≠ 12 → f5 c = f c := fun c hc => (e1 c hc).trans (st2_c hc)
  have h5 : TxF f5 L B := h.mv (e1 1 (by decide)) (e1 2 (by decide))
  refine ⟨st2 f5 12 4 (nI (s + 1)), ?_, fun c hc => by rw [st2_c hc]; exact e1 c hc, by rw [st2_k (by decide)]; exact e2, st2_e⟩
  unfold q_X4_readToken rT
  simp only [sq]
  rw [e, bi_some, e2, byteF hB h5 (by omega), bi_some, nI_1]
theorem tokG0 {g : mM} {L : Nat} {B : Nat → Nat} (hB : TxB L B) (h : TxG g L B) {i s : Nat} (h1 : i ≤ s) (h2 : s ≤ L) (h3 : ∀ j, i ≤ j → j < s → B j = 32) (h4 : s < L → ¬ B s = 32) (hi : g 0 4 = nI i) {N : Nat} (hN : 1000 ≤ N) : ∃ g6, q_X10_advances N g = aT N (bv L B s) g6 ∧ AG g g6 ∧ g6 0 4 = nI s ∧ g6 0 6 = nI s := by
  have hL := hB.1
  obtain ⟨g5, e, e1, e2, e3⟩ := blankG hB h h1 h2 h3 h4 hi hN
  have hA : AG g g5 := ⟨e1, fun k hk => e2 k (by omega)⟩
  have hq : TxG (st2 g5 0 6 (nI s)) L B := h.mv (by rw [st2_k (by decide)]; exact e2 3 (by decide)) (by rw [st2_c (by decide)]; exact e1 1 (by decide))
  refine ⟨st2 g5 0 6 (nI s), ?_, hA.st (by decide) (by decide), by rw [st2_k (by decide)]; exact e3, st2_e⟩
  unfold q_X10_advances aT
  simp only [sq]
  rw [e, bi_some, e3, st2_k (by decide), e3, byteG hB hq (by omega), bi_some]
def dE (f12 : mM) : Option (Int32 × mM) := if (f12 12 5) ≤ 99 then some (3, f12) else some (0, f12)
theorem dT_eq (N : Nat) (f : mM) : q_X4_digitsToken N f = bi (q_X7_byteAt (f 12 3) f) (fun y1 => bi (lp_X4_digitsToken_18 N N (st2 f 12 5 (y1 - 48))) (fun f12 => bi (q_X7_byteAt (f12 12 3) f12) (fun y14 => if y14 = 48 then if ((f12 12 4) - (f12 12 3)) ≤ 1 then dE f12 else some (0, f12) else dE f12))) := rfl
theorem digitsF {f : mM} {L : Nat} {B : Nat → Nat} (hB : TxB L B) (h : TxF f L B) {s b K : Nat} (h1 : s < b) (h2 : b ≤ L) (h3 : ∀ j, s ≤ j → j < b → 48 ≤ B j ∧ B j ≤ 57) (h4 : b < L → ¬ (48 ≤ B b ∧ B b ≤ 57)) (hs : f 12 3 = nI s) (hs4 : f 12 4 = nI (s + 1)) (hK : K = 0 ∧ (99 < dv B s (b - s) ∨ B s = 48 ∧ 1 < b - s) ∨ K = 3 ∧ ¬ (99 < dv B s (b - s) ∨ B s = 48 ∧ 1 < b - s)) {N : Nat} (hN : 1000 ≤ N) : ∃ f', q_X4_digitsToken N f = some (nI K, f') ∧ (∀ c, c ≠ 12 → f' c = f c) ∧ f' 12 3 = nI s ∧ f' 12 4 = nI b ∧ (K = 3 → f' 12 5 = nI (dv B s (b - s))) := by
  have hL := hB.1
  have hr := h3 s (by omega) (by omega)
  have hd := dv_le (B := B) (s := s) (m := b - s) (fun j hj => h3 (s + j) (by omega) (by omega)) (b - s) (Nat.le_refl _)
  have hv : bv L B s - 48 = nI (B s - 48) := by rw [bv_in (by omega)]; exact pk_sub (b := 48) (by omega)
  obtain ⟨f', e, e1, e2, e3, e4⟩ := digF (f := st2 f 12 5 (nI (B s - 48))) hB (h.mv (st2_c (by decide)) (st2_c (by decide))) h1 h2 h3 h4 (by rw [st2_k (by decide)]; exact hs) (by rw [st2_k (by decide)]; exact hs4) st2_e hN
  have e1 : ∀ c, c ≠ 12 → f' c = f c := fun c hc => (e1 c hc).trans (st2_c hc)
  have hq : TxF f' L B := h.mv (e1 1 (by decide)) (e1 2 (by decide))
  refine ⟨f', ?_, e1, e2, e3, fun hk => ?_⟩
  · rw [dT_eq, hs, byteF hB h (by omega), bi_some, hv, e, bi_some, e2, byteF hB hq (by omega), bi_some, e3, bv_in (by omega), pk_sub (by omega)]
    unfold dE
    rw [e4]
    by_cases c1 : 99 < dv B s (b - s)
    · have hk : K = 0 := by
        rcases hK with ⟨k, -⟩ | ⟨-, k⟩
        · exact k
        · exact absurd (Or.inl c1) k
      subst hk
      rw [if_neg (show ¬ nI (min (dv B s (b - s)) 100) ≤ 99 from nI_ge (a := 99) (by omega) (by omega))]
      by_cases c2 : nI (B s) = 48
      · rw [if_pos c2]
        by_cases c3 : nI (b - s) ≤ 1
        · rw [if_pos c3]; rfl
        · rw [if_neg c3]; rfl
      · rw [if_neg c2]; rfl
    · rw [if_pos (show nI (min (dv B s (b - s)) 100) ≤ 99 from nI_le (b := 99) (by omega) (by decide))]
      by_cases c2 : B s = 48
      · rw [if_pos (show nI (B s) = 48 from by rw [c2]; rfl)]
        by_cases c3 : 1 < b - s
        · have hk : K = 0 := by
            rcases hK with ⟨k, -⟩ | ⟨-, k⟩
            · exact k
            · exact absurd (Or.inr ⟨c2, c3⟩) k
          subst hk
          rw [if_neg (show ¬ nI (b - s) ≤ 1 from nI_ge (a := 1) c3 (by omega))]
          rfl
        · have hk : K = 3 := by
            rcases hK with ⟨-, k | k⟩ | ⟨k, -⟩
            · exact absurd k c1
            · exact absurd k.2 c3
            · exact k
          subst hk
          rw [if_pos (show nI (b - s) ≤ 1 from nI_le (b := 1) (by omega) (by decide))]
          rfl
      · have hk : K = 3 := by
          rcases hK with ⟨-, k | k⟩ | ⟨k, -⟩
          · exact absurd k c1
          · exact absurd k.1 c2
          · exact k
        subst hk
        rw [if_neg (show ¬ nI (B s) = 48 from nI_ltN (b := 48) (by omega) (by decide) c2)]
        rfl
  · rw [e4]
    congr 1
    rcases hK with ⟨k, -⟩ | ⟨-, k⟩
    · omega
    · have : ¬ 99 < dv B s (b - s) := fun h => k (Or.inl h)
      omega
theorem tok_end {L : Nat} {B : Nat → Nat} (hB : TxB L B) {i s : Nat} (h1 : i ≤ s) (h2 : s ≤ L) (h3 : ∀ j, i ≤ j → j < s → B j = 32) (h4 : s < L → ¬ B s = 32) {N : Nat} (hN : 1000 ≤ N) (c : ¬ s < L) : Tk N L B i 1 s s 0 := by
  refine ⟨fun f hf hi => ?_, fun g hg hi => ?_, h1, h2, by decide, fun h => absurd rfl h, fun h => absurd h (by decide)⟩
  · obtain ⟨f9, e, e1, e2, e3⟩ := tokF0 hB hf h1 h2 h3 h4 hi hN
    refine ⟨st2 f9 12 2 1, ?_, fun c hc => by rw [st2_c hc]; exact e1 c hc, st2_e, by rw [st2_k (by decide)]; exact e2, fun h => absurd rfl h, fun h => absurd h (by decide)⟩
    rw [e, bv_out c]
    unfold rT
    rw [if_pos rfl]
    rfl
  · obtain ⟨g6, e, hA, e2, e3⟩ := tokG0 hB hg h1 h2 h3 h4 hi hN
    refine ⟨st2 g6 0 5 0, ?_, hA.st (by decide) (by decide), st2_e, by rw [st2_k (by decide)]; exact e3, fun h => absurd rfl h, fun h => absurd h (by decide), fun h => absurd h (by decide)⟩
    rw [e, bv_out c]
    unfold aT
    rw [if_neg (by decide)]
    rfl
theorem tok_one {L : Nat} {B : Nat → Nat} (hB : TxB L B) {i s K : Nat} (h1 : i ≤ s) (h2 : s ≤ L) (h3 : ∀ j, i ≤ j → j < s → B j = 32) (h4 : s < L → ¬ B s = 32) {N : Nat} (hN : 1000 ≤ N) (c : s < L) (cl : ¬ rg 97 122 L B s) (cd : ¬ rg 48 57 L B s) (hK : K = 2 ∧ B s = 59 ∨ K = 0 ∧ ¬ B s = 59) : Tk N L B i K s (s + 1) 0 := by
  have hb := hB.2 s c
  have hL := hB.1
  refine ⟨fun f hf hi => ?_, fun g hg hi => ?_, h1, h2, by omega, fun h => ⟨by omega, by omega⟩, fun h => absurd h (by omega)⟩
  · obtain ⟨f9, e, e1, e2, e3⟩ := tokF0 hB hf h1 h2 h3 h4 hi hN
    refine ⟨st2 f9 12 2 (nI K), ?_, fun c hc => by rw [st2_c hc]; exact e1 c hc, st2_e, by rw [st2_k (by decide)]; exact e2, fun h => by rw [st2_k (by decide)]; exact e3, fun h => absurd h (by omega)⟩
    rw [e]
    unfold rT
    rw [dig0 hB cd, let0 hB cl, if_neg (by rw [bv_in c]; exact nI_neg (by omega)), bi_some, bi_some, if_pos rfl, if_pos rfl]
    rcases hK with ⟨rfl, k⟩ | ⟨rfl, k⟩
    · rw [if_pos ((bv59 hB).mpr ⟨c, k⟩)]; rfl
    · rw [if_neg (fun h => k ((bv59 hB).mp h).2)]; rfl
  · obtain ⟨g6, e, hA, e2, e3⟩ := tokG0 hB hg h1 h2 h3 h4 hi hN
    refine ⟨st2 (st2 g6 0 4 (nI (s + 1))) 0 5 (nI (rk K)), ?_, (hA.st (by decide) (by decide)).st (by decide) (by decide), st2_e, by rw [st2_k (by decide), st2_k (by decide)]; exact e3, fun h => by rw [st2_k (by decide)]; exact st2_e, fun h => absurd h (by omega), fun h => absurd h (by omega)⟩
    rw [e]
    unfold aT
    rw [digG0 hB cd, letG0 hB cl, if_pos (by rw [bv_in c]; exact nI_pos' (by omega)), bi_some, bi_some, if_pos rfl, if_pos rfl]
    simp only [sq]
    rw [e2, nI_1]
    rcases hK with ⟨rfl, k⟩ | ⟨rfl, k⟩
    · rw [if_pos ((bv59 hB).mpr ⟨c, k⟩)]; rfl
    · rw [if_neg (fun h => k ((bv59 hB).mp h).2)]; rfl
theorem tok_num {L : Nat} {B : Nat → Nat} (hB : TxB L B) {i s b K : Nat} (h1 : i ≤ s) (h2 : s ≤ L) (h3 : ∀ j, i ≤ j → j < s → B j = 32) (h4 : s < L → ¬ B s = 32) {N : Nat} (hN : 1000 ≤ N) (cd : rg 48 57 L B s) (d1 : s < b) (d2 : b ≤ L) (d3 : ∀ j, s ≤ j → j < b → 48 ≤ B j ∧ B j ≤ 57) (d4 : b < L → ¬ (48 ≤ B b ∧ B b ≤ 57)) (hK : K = 0 ∧ (99 < dv B s (b - s) ∨ B s = 48 ∧ 1 < b - s) ∨ K = 3 ∧ ¬ (99 < dv B s (b - s) ∨ B s = 48 ∧ 1 < b - s)) : Tk N L B i K s b (dv B s (b - s)) := by
  have c := cd.1
  have hb := hB.2 s c
  have hL := hB.1
  have hd := dv_le (B := B) (s := s) (m := b - s) (fun j hj => d3 (s + j) (by omega) (by omega)) (b - s) (Nat.le_refl _)
  have cl : ¬ rg 97 122 L B s := fun h => by have := h.2; have := cd.2; omega
  refine ⟨fun f hf hi => ?_, fun g hg hi => ?_, h1, h2, by omega, fun h => ⟨d1, d2⟩, fun h => ?_⟩
  · obtain ⟨f9, e, e1, e2, e3⟩ := tokF0 hB hf h1 h2 h3 h4 hi hN
    obtain ⟨f', a, a1, a2, a3, a4⟩ := digitsF hB (hf.mv (e1 1 (by decide)) (e1 2 (by decide))) d1 d2 d3 d4 e2 e3 hK hN
    refine ⟨st2 f' 12 2 (nI K), ?_, fun c hc => by rw [st2_c hc]; exact (a1 c hc).trans (e1 c hc), st2_e, by rw [st2_k (by decide)]; exact a2, fun h => by rw [st2_k (by decide)]; exact a3, fun h => by rw [st2_k (by decide)]; exact a4 h⟩
    rw [e]
    unfold rT
    rw [dig1 hB cd, if_neg (by rw [bv_in c]; exact nI_neg (by omega)), bi_some, if_neg z10, if_neg (fun h => by have := ((bv59 hB).mp h).2; have := cd.2; omega), a]
    rfl
  · obtain ⟨g6, e, hA, e2, e3⟩ := tokG0 hB hg h1 h2 h3 h4 hi hN
    have hA7 : AG g (st2 g6 0 7 0) := hA.st (by decide) (by decide)
    obtain ⟨g', a, a1, a2, a3, a4⟩ := digG hB (hg.mv (hA7.2 3 (by decide)) (hA7.1 1 (by decide))) d1 d2 d3 d4 (by rw [st2_k (by decide)]; exact e2) st2_e (bv L B s) hN
    have hA2 : AG g g' := ⟨fun c hc => (a1 c hc).trans (hA7.1 c hc), fun k hk => (a2 k (by omega) (by omega)).trans (hA7.2 k hk)⟩
    have a6 : g' 0 6 = nI s := by rw [a2 6 (by decide) (by decide), st2_k (by decide)]; exact e3
    refine ⟨st2 g' 0 5 (nI (rk K)), ?_, hA2.st (by decide) (by decide), st2_e, by rw [st2_k (by decide)]; exact a6, fun h => by rw [st2_k (by decide)]; exact a3, fun h => by rw [st2_k (by decide)]; exact a4, fun h => absurd h (by omega)⟩
    rw [e]
    unfold aT
    rw [digG1 hB cd, letG0 hB cl, if_pos (by rw [bv_in c]; exact nI_pos' (by omega)), bi_some, bi_some, if_pos rfl, if_neg z10]
    simp only [sq]
    rw [a, bi_some, a4, a3, a6, pk_sub (by omega)]
    by_cases c1 : 99 < dv B s (b - s)
    · have hk : K = 0 := by
        rcases hK with ⟨k, -⟩ | ⟨-, k⟩
        · exact k
        · exact absurd (Or.inl c1) k
      subst hk
      rw [if_pos (show (99 : Int32) < nI (dv B s (b - s)) from nI_lt (a := 99) c1 (by omega))]
      rfl
    · rw [if_neg (show ¬ (99 : Int32) < nI (dv B s (b - s)) from nI_nlt (a := 99) (by omega) (by decide))]
      by_cases c2 : B s = 48
      · rw [if_pos ((bv48 hB).mpr ⟨c, c2⟩)]
        by_cases c3 : 1 < b - s
        · have hk : K = 0 := by
            rcases hK with ⟨k, -⟩ | ⟨-, k⟩
            · exact k
            · exact absurd (Or.inr ⟨c2, c3⟩) k
          subst hk
          rw [if_neg (show ¬ nI (b - s) ≤ 1 from nI_ge (a := 1) c3 (by omega))]
          rfl
        · have hk : K = 3 := by
            rcases hK with ⟨-, k | k⟩ | ⟨k, -⟩
            · exact absurd k c1
            · exact absurd k.2 c3
            · exact k
          subst hk
          rw [if_pos (show nI (b - s) ≤ 1 from nI_le (b := 1) (by omega) (by decide))]
          rfl
      · have hk : K = 3 := by
          rcases hK with ⟨-, k | k⟩ | ⟨k, -⟩
          · exact absurd k c1
          · exact absurd k.1 c2
          · exact k
        subst hk
        rw [if_neg (fun h => c2 ((bv48 hB).mp h).2)]
        rfl
  · rcases hK with ⟨k, -⟩ | ⟨-, k⟩
    · omega
    · have : ¬ 99 < dv B s (b - s) := fun h => k (Or.inl h)
      omega
theorem tok_word {L : Nat} {B : Nat → Nat} (hB : TxB L B) {i s b K : Nat} (h1 : i ≤ s) (h2 : s ≤ L) (h3 : ∀ j, i ≤ j → j < s → B j = 32) (h4 : s < L → ¬ B s = 32) {N : Nat} (hN : 1000 ≤ N) (cl : rg 97 122 L B s) (d1 : s < b) (d2 : b ≤ L) (d3 : ∀ j, s ≤ j → j < b → 97 ≤ B j ∧ B j ≤ 122) (d4 : b < L → ¬ (97 ≤ B b ∧ B b ≤ 122)) (hK : kw K (b - s) B s) : Tk N L B i K s b 0 := by
  have c := cl.1
  have hb := hB.2 s c
  have hL := hB.1
  have cd : ¬ rg 48 57 L B s := fun h => by have := h.2; have := cl.2; omega
  obtain ⟨x, hx, hx2⟩ := wordG (B := B) (s := s) (m := b - s) (by omega) (fun j hj => d3 (s + j) (by omega) (by omega)) hK
  refine ⟨fun f hf hi => ?_, fun g hg hi => ?_, h1, h2, by omega, fun h => ⟨d1, d2⟩, fun h => by omega⟩
  · obtain ⟨f9, e, e1, e2, e3⟩ := tokF0 hB hf h1 h2 h3 h4 hi hN
    obtain ⟨f', a, a1, a2, a3⟩ := lettersF hB (hf.mv (e1 1 (by decide)) (e1 2 (by decide))) d1 d2 d3 d4 e2 e3 hK hN
    refine ⟨st2 f' 12 2 (nI K), ?_, fun c hc => by rw [st2_c hc]; exact (a1 c hc).trans (e1 c hc), st2_e, by rw [st2_k (by decide)]; exact a2, fun h => by rw [st2_k (by decide)]; exact a3, fun h => by omega⟩
    rw [e]
    unfold rT
    rw [dig0 hB cd, let1 hB cl, if_neg (by rw [bv_in c]; exact nI_neg (by omega)), bi_some, bi_some, if_pos rfl, if_neg z10, if_neg (fun h => by have := ((bv59 hB).mp h).2; have := cl.2; omega), a]
    rfl
  · obtain ⟨g6, e, hA, e2, e3⟩ := tokG0 hB hg h1 h2 h3 h4 hi hN
    obtain ⟨g', a, a1, a2, a3⟩ := letG hB (hg.mv (hA.2 3 (by decide)) (hA.1 1 (by decide))) d1 d2 d3 d4 e2 e3 hN
    have hA2 : AG g g' := ⟨fun c hc => (a1 c hc).trans (hA.1 c hc), fun k hk => (a2 k (by omega)).trans (hA.2 k hk)⟩
    refine ⟨st2 (st2 g' 0 7 x) 0 5 (nI (rk K)), ?_, (hA2.st (by decide) (by decide)).st (by decide) (by decide), st2_e, by rw [st2_k (by decide), st2_k (by decide), a2 6 (by decide)]; exact e3, fun h => by rw [st2_k (by decide), st2_k (by decide)]; exact a3, fun h => by omega, fun h => ?_⟩
    · rw [e]
      unfold aT
      rw [letG1 hB cl, if_pos (by rw [bv_in c]; exact nI_pos' (by omega)), bi_some, if_neg z10, a, bi2_some, hx, bi_some]
      simp only [sq]
      rw [st2_e]
      rcases hx2 with ⟨rfl, rfl⟩ | ⟨k1, k2, rfl⟩
      · rw [if_pos rfl]; rfl
      · rw [if_neg (fun e => by rw [i_eq, nI_toInt (by omega), show (-9 : Int32).toInt = -9 from rfl] at e; omega)]
        rw [show rk K = 1 from by unfold rk; rw [if_neg (by omega), if_neg (by omega), if_neg (by omega), if_neg (by omega)]]
        rfl
    · rw [st2_k (by decide), st2_e]
      rcases hx2 with ⟨k, -⟩ | ⟨-, -, k⟩
      · omega
      · exact k
theorem tok_ex {L : Nat} {B : Nat → Nat} (hB : TxB L B) {i N : Nat} (hi : i ≤ L) (hN : 1000 ≤ N) : ∃ K s b v, Tk N L B i K s b v := by
  obtain ⟨s, h1, h2, h3, h4⟩ := scan_ex (fun j => B j = 32) L (L - i) i (by omega)
  by_cases c : s < L
  · by_cases cd : rg 48 57 L B s
    · obtain ⟨b, d1, d2, d3, d4⟩ := scan_ex (fun j => 48 ≤ B j ∧ B j ≤ 57) L (L - s) s (by omega)
      have d0 : s < b := by
        by_cases e : s = b
        · subst e; exact absurd cd.2 (d4 c)
        · omega
      by_cases k : 99 < dv B s (b - s) ∨ B s = 48 ∧ 1 < b - s
      · exact ⟨0, s, b, _, tok_num hB h1 h2 h3 h4 hN cd d0 d2 d3 d4 (Or.inl ⟨rfl, k⟩)⟩
      · exact ⟨3, s, b, _, tok_num hB h1 h2 h3 h4 hN cd d0 d2 d3 d4 (Or.inr ⟨rfl, k⟩)⟩
    · by_cases cl : rg 97 122 L B s
      · obtain ⟨b, d1, d2, d3, d4⟩ := scan_ex (fun j => 97 ≤ B j ∧ B j ≤ 122) L (L - s) s (by omega)
        have d0 : s < b := by
          by_cases e : s = b
          · subst e; exact absurd cl.2 (d4 c)
          · omega
        obtain ⟨K, hK⟩ := kw_ex (b - s) B s
        exact ⟨K, s, b, 0, tok_word hB h1 h2 h3 h4 hN cl d0 d2 d3 d4 hK⟩
      · by_cases k : B s = 59
        · exact ⟨2, s, s + 1, 0, tok_one hB h1 h2 h3 h4 hN c cl cd (Or.inl ⟨rfl, k⟩)⟩
        · exact ⟨0, s, s + 1, 0, tok_one hB h1 h2 h3 h4 hN c cl cd (Or.inr ⟨rfl, k⟩)⟩
  · exact ⟨1, s, s, 0, tok_end hB h1 h2 h3 h4 hN c⟩
