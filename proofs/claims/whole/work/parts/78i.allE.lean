def B78 (N n : Nat) (x2 x3 : Int32) (f18 : mM) : Option (Int32 × mM) := gi x3 6 (gi x3 6 (sq (st2 f18 13 (Int32.toNatClampNeg x3) ((f18 13 (Int32.toNatClampNeg x3)) + 1)) (fun f22 => bi (lp_X10_leastTaken_104 N x2 x3 N f22) (fun f31 => gi x3 6 (gi x3 3 (if (f31 13 (Int32.toNatClampNeg x3)) = (f31 16 (Int32.toNatClampNeg x3)) then gi x3 6 (sq (st2 f31 13 (Int32.toNatClampNeg x3) (-1)) (fun f47 => sq (x3 + (-1)) (fun x3_48 => lp_X10_leastTaken_78 N n x2 x3_48 f47))) else gi x3 6 (bi (q_X10_loads N x3 (f31 13 (Int32.toNatClampNeg x3)) 1 f31) (fun f36 => if x3 = ((f36 0 18) - 1) then sq (fun (_ : Unit) => bi (q_X10_loaded N f36) (fun y42 => lp_X10_leastTaken_78 N n y42 x3 f36)) (fun k41 => if x2 = (-9) then k41 () else bi (q_X10_loaded N f36) (fun y44 => if x2 ≤ y44 then lp_X10_leastTaken_78 N n x2 x3 f36 else k41 ())) else sq (x3 + 1) (fun x3_38 => gi x3_38 6 (sq (st2 f36 13 (Int32.toNatClampNeg x3_38) (-1)) (fun f40 => lp_X10_leastTaken_78 N n x2 x3_38 f40))))))))))) 
theorem lt78 (N n : Nat) (x2 x3 : Int32) (f : mM) : lp_X10_leastTaken_78 N (n + 1) x2 x3 f = if x3 < 0 then some (x2, f) else gi x3 6 (if (f 13 (Int32.toNatClampNeg x3)) < 0 then B78 N n x2 x3 f else gi x3 6 (bi (q_X10_loads N x3 (f 13 (Int32.toNatClampNeg x3)) (-1) f) (fun f50 => B78 N n x2 x3 f50))) := by
  rw [lp_X10_leastTaken_78_s]
  rfl
theorem WD.go {g g' : mM} {M : tM} {S0 : Nat → Nat} {e : Nat} (h : WD g M S0 e) (h14 : g' 14 = g 14) (h15 : g' 15 = g 15) (h16 : g' 16 = g 16) : WD g' M S0 e := by
  unfold WD at h ⊢
  rw [h14, h15, h16]
  exact h
def ldI (M : tM) (S0 Ld : Nat → Nat) (e i k : Nat) : Nat := Ld k + (if i = 0 then 0 else hK M e (qw M S0 e (i - 1)) k)
theorem lt_step {M : tM} {S0 Ld : Nat → Nat} (hw : WF M) (hS : ∀ k, k < 9 → S0 k ≤ 9) (hL : ∀ k, k < 9 → Ld k ≤ S0 k) {e i : Nat} (he : e < M 0 3) (hi : i ≤ (WL M S0 e).length) {g : mM} (hg : TG g M) (h8 : ∀ k, k < 9 → g 8 k = nI (S0 k)) (hd : WD g M S0 e) (h13 : g 13 e = nI i - 1) (h17 : ∀ k, k < 9 → g 17 k = nI (ldI M S0 Ld e i k)) {N : Nat} (hN : 1000 ≤ N) (acc : Int32) : ∃ g1 : mM, (∀ d, d ≠ 13 → d ≠ 17 → g1 d = g d) ∧ (∀ k, k < 9 → g1 17 k = nI (Ld k)) ∧ (∀ j, j ≠ e → g1 13 j = g 13 j) ∧ (nbf (fun i => bB M e (qw M S0 e i) (fun k => S0 k - Ld k) (M 0 1)) ((WL M S0 e).length - i) i = (WL M S0 e).length → ∀ n, lp_X10_leastTaken_78 N (n + 1) acc (nI e) g = lp_X10_leastTaken_78 N n acc (nI e - 1) (st2 g1 13 e (-1))) ∧ ∀ i', nbf (fun i => bB M e (qw M S0 e i) (fun k => S0 k - Ld k) (M 0 1)) ((WL M S0 e).length - i) i = i' → i' < (WL M S0 e).length → g1 13 e = nI i' ∧ ∀ g2, q_X10_loads N (nI e) (nI i') 1 g1 = some g2 → g2 0 = g 0 → (e + 1 = M 0 3 → ∀ ld, q_X10_loaded N g2 = some ld → ∀ n, lp_X10_leastTaken_78 N (n + 1) acc (nI e) g = if acc = -9 then lp_X10_leastTaken_78 N n ld (nI e) g2 else if acc ≤ ld then lp_X10_leastTaken_78 N n acc (nI e) g2 else lp_X10_leastTaken_78 N n ld (nI e) g2) ∧ (e + 1 < M 0 3 → ∀ n, lp_X10_leastTaken_78 N (n + 1) acc (nI e) g = lp_X10_leastTaken_78 N n acc (nI (e + 1)) (st2 g2 13 (e + 1) (-1))) := by
  have hb := hw.1
  have h512 : (WL M S0 e).length ≤ 512 := PA_512 hw
  -- what was loaded is taken off
  have un : ∃ g0 : mM, (∀ d, d ≠ 17 → g0 d = g d) ∧ (∀ k, k < 9 → g0 17 k = nI (Ld k)) ∧ ∀ n, lp_X10_leastTaken_78 N (n + 1) acc (nI e) g = B78 N n acc (nI e) g0 := by
    by_cases c : i = 0
    · subst c
      refine ⟨g, fun _ _ => rfl, fun k hk => by rw [h17 k hk]; rfl, fun n => ?_⟩
      rw [lt78, if_neg (nI_pos (by omega)), gi_in _ (by omega) (by decide), cl_nI (by omega), h13, if_pos (by decide)]
    · have him : nI i - 1 = nI (i - 1) := by
        have := sub1 (i - 1)
        rwa [show i - 1 + 1 = i by omega] at this
      obtain ⟨g0, r1, r2, r3⟩ := loadsG (S0 := S0) (A := ldI M S0 Ld e i) (Z := Ld) hw hg (-1) (i := i - 1) h17 he hd (by omega) (fun k hk => by
        unfold ldI
        rw [if_neg c]
        unfold hK
        split
        · rw [show (-1 : Int32) * nI (M 4 (M 6 e)) = - nI (M 4 (M 6 e)) from by rw [Int32.neg_mul, Int32.one_mul], ← Int32.sub_eq_add_neg, pk_sub (by omega), Nat.add_sub_cancel]
        · exact nI_add (Ld k + 0) 0) hN
      refine ⟨g0, r2, r3, fun n => ?_⟩
      rw [lt78, if_neg (nI_pos (by omega)), gi_in _ (by omega) (by decide), cl_nI (by omega), h13, him, if_neg (nI_pos (by omega)), gi_in _ (by omega) (by decide), r1, bi_some]
  obtain ⟨g0, u1, u2, u3⟩ := un
  have hg0 : TG g0 M := hg.go (fun d h1 h2 => u1 d (by omega)) (fun j _ _ => by rw [u1 0 (by decide)])
  have hd0 : WD g0 M S0 e := hd.go (u1 14 (by decide)) (u1 15 (by decide)) (u1 16 (by decide))
  obtain ⟨g1, r1, r2, r3, r4⟩ := adv104 hw hg0 hS (fun k hk => by rw [u1 8 (by decide)]; exact h8 k hk) u2 hL he hd0 acc hN ((WL M S0 e).length - i) i N (st2 g0 13 e (nI i)) (by omega) (by omega) (fun d hd => st2_c hd) (fun j hj => st2_k hj) st2_e
  have hB : ∀ n, B78 N n acc (nI e) g0 = gi (nI e) 6 (gi (nI e) 3 (if (g1 13 e) = (g1 16 e) then gi (nI e) 6 (lp_X10_leastTaken_78 N n acc (nI e + (-1)) (st2 g1 13 e (-1))) else gi (nI e) 6 (bi (q_X10_loads N (nI e) (g1 13 e) 1 g1) (fun f36 => if nI e = ((f36 0 18) - 1) then (if acc = (-9) then bi (q_X10_loaded N f36) (fun y42 => lp_X10_leastTaken_78 N n y42 (nI e) f36) else bi (q_X10_loaded N f36) (fun y44 => if acc ≤ y44 then lp_X10_leastTaken_78 N n acc (nI e) f36 else bi (q_X10_loaded N f36) (fun y42 => lp_X10_leastTaken_78 N n y42 (nI e) f36))) else gi (nI e + 1) 6 (lp_X10_leastTaken_78 N n acc (nI e + 1) (st2 f36 13 (Int32.toNatClampNeg (nI e + 1)) (-1))))))) := by
    intro n
    unfold B78
    simp only [sq]
    rw [gi_in _ (by omega) (by decide), gi_in _ (by omega) (by decide), cl_nI (by omega), u1 13 (by decide), h13, show nI i - 1 + 1 = nI i from by rw [Int32.sub_eq_add_neg, Int32.add_assoc]; exact Int32.add_zero _, r1, bi_some]
  have e16 : g1 16 e = nI (WL M S0 e).length := by rw [r2 16 (by decide)]; exact hd0.1
  refine ⟨g1, fun d h1 h2 => (r2 d h1).trans (u1 d h2), fun k hk => by rw [r2 17 (by decide)]; exact u2 k hk, fun j hj => (r3 j hj).trans (by rw [u1 13 (by decide)]), fun hn n => ?_, fun i' hn hi' => ⟨by rw [r4, hn], fun g2 hg2 h0 => ⟨fun hlast ld hld n => ?_, fun hmore n => ?_⟩⟩⟩
  · rw [u3, hB, gi_in _ (by omega) (by decide), gi_in _ (by omega) (by decide), r4, hn, e16, if_pos rfl, gi_in _ (by omega) (by decide), ← Int32.sub_eq_add_neg]
  · rw [u3, hB, gi_in _ (by omega) (by decide), gi_in _ (by omega) (by decide), r4, hn, e16, if_neg (fun h => by have := (nI_inj (by omega) (by omega)).mp h; omega), gi_in _ (by omega) (by decide), hg2, bi_some, h0, hg.1.2.2.2, if_pos (show nI e = nI (M 0 3) - 1 by rw [← hlast, sub1]), hld]
    rfl
  · rw [u3, hB, gi_in _ (by omega) (by decide), gi_in _ (by omega) (by decide), r4, hn, e16, if_neg (fun h => by have := (nI_inj (by omega) (by omega)).mp h; omega), gi_in _ (by omega) (by decide), hg2, bi_some, h0, hg.1.2.2.2, if_neg (show ¬ nI e = nI (M 0 3) - 1 by
      rw [show nI (M 0 3) - 1 = nI (M 0 3 - 1) from by have := sub1 (M 0 3 - 1); rwa [show M 0 3 - 1 + 1 = M 0 3 by omega] at this]
      intro h
      have := (nI_inj (by omega) (by omega)).mp h
      omega), nI_1, gi_in _ (by omega) (by decide), cl_nI (by omega)]
def tI (T : Nat) (o : Option Nat) : Int32 := match o with
  | none => -9
  | some v => nI (T - v)
def KK : Nat → Nat
  | 0 => 0
  | c + 1 => 1 + 512 * (1 + KK c)
def XL (M : tM) (S0 Ld : Nat → Nat) (c e i v : Nat) : Prop := ∃ j, i ≤ j ∧ j < (WL M S0 e).length ∧ bB M e (qw M S0 e j) (fun k => S0 k - Ld k) (M 0 1) = true ∧ RUNm M c (e + 1) (fun k => S0 k - Ld k - hK M e (qw M S0 e j) k) v
theorem sm_sub {P Q : Nat → Nat} : ∀ n, (∀ k, k < n → Q k ≤ P k) → sm (fun k => P k - Q k) n + sm Q n = sm P n := by
  intro n
  induction n with
  | zero => intro _; rfl
  | succ n ih =>
    intro h
    have h1 := ih (fun k hk => h k (by omega))
    have h2 := h n (by omega)
    show sm (fun k => P k - Q k) n + (P n - Q n) + (sm Q n + Q n) = sm P n + P n
    omega
theorem ways_X {M : tM} (hw : WF M) {S0 Ld : Nat → Nat} {c e : Nat} (he : e < M 0 3) (v : Nat) : XL M S0 Ld c e 0 v ↔ RUNm M (c + 1) e (fun k => S0 k - Ld k) v := by
  have a3 := hw.2.2.2 e he
  have hb := hw.1
  have hself : (2 ^ M 7 e).testBit (M 7 e) = true := by rw [Nat.testBit_two_pow]; simp
  constructor
  · intro ⟨j, h1, h2, h3, h4⟩
    have hm := qw_mem h2
    rw [bB_Bn (qw_np h2)] at h3
    have hf := ways_fwd _ _ _ _ _ _ hm a3.2.2.2 hself h3
    have hap : apd M (M 6 e) (qw M S0 e j) 0 (fun k => S0 k - Ld k) = fun k => S0 k - Ld k - hK M e (qw M S0 e j) k := by
      funext k
      rw [apd_hit _ _ _ _ (PA_ok _ _ _ _ _ hm) hself]
      unfold hK
      rw [hs_hit]
    rw [hap] at hf
    exact ⟨qw M S0 e j, _, hf, h4⟩
  · intro ⟨q, S2, h1, h2⟩
    obtain ⟨b1, b2, b3⟩ := ways_bwd hw (S0 := S0) q 0 (M 7 e) (2 ^ M 7 e) _ S2 (M 0 0 - 1) h1 (fun k => Nat.sub_le _ _) (by omega) (cn_one a3.2.1) a3.2.2.2
    obtain ⟨j, hj, hjq⟩ := List.getElem_of_mem (show q ∈ WL M S0 e from b1)
    have hqj : qw M S0 e j = q := by
      unfold qw
      rw [List.getD_eq_getElem?_getD, List.getElem?_eq_getElem hj]
      exact hjq
    refine ⟨j, Nat.zero_le _, hj, ?_, ?_⟩
    · rw [bB_Bn (qw_np hj), hqj]; exact b2
    · have hap : apd M (M 6 e) q 0 (fun k => S0 k - Ld k) = fun k => S0 k - Ld k - hK M e q k := by
        funext k
        rw [apd_hit _ _ _ _ (PA_ok _ _ _ _ _ b1) hself]
        unfold hK
        rw [hs_hit]
      rw [hqj, ← hap, ← b3]
      exact h2
