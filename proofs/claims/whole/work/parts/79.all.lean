def NN : Nat := 1000000000
def f_start : mM := st2 (st2 (st2 (st2 (fun _ _ => 0) 3 0 4) 13 0 4) 12 2 1) 39 2 (-9)
def g_start : mM := st2 (fun _ _ => 0) 0 15 4
theorem inv_start : Inv f_start 0 g_start 0 := by
  refine ⟨rfl, ⟨0, by omega, rfl, rfl, fun j h => absurd h (by omega)⟩, fun a b => if a = 0 then if b = 0 then 4 else 0 else 0, ⟨⟨by decide, by decide, by decide, by decide, by decide⟩, fun k h => absurd h (by simp), fun k h => absurd h (by simp), fun k h => absurd h (by simp)⟩, ⟨⟨rfl, rfl, rfl, rfl⟩, fun k h => absurd h (by simp), fun k h => absurd h (by simp), fun k h => absurd h (by simp)⟩, ⟨⟨rfl, rfl, rfl, rfl⟩, fun k h => absurd h (by simp), fun k h => absurd h (by simp), fun k h => absurd h (by simp)⟩, ⟨fun _ => 0, 0, fun _ _ => Nat.zero_le 9, fun _ _ _ => rfl, by omega, fun k hk => ⟨rfl, rfl⟩, rfl, rfl, fun i h => absurd h (by omega)⟩, ⟨0, rfl, rfl, Or.inl rfl⟩, ⟨0, rfl, rfl, Or.inl rfl⟩⟩
theorem sims_all {N : Nat} (hN : NN ≤ N) : Sims Inv N := by
  have hN : 1000000000 ≤ N := hN
  have hM : 1000000 ≤ N := by omega
  have hK : 1000 ≤ N := by omega
  exact ⟨sim_type hK, sim_clear N, sim_marsh hK, sim_plank N, sim_person N, sim_errand N, sim_way hM, sim_go hM, sim_steps N, sim_days hM, sim_went N, sim_frost hK, sim_cart N, sim_exchange N, sim_all hN, sim_often hK, sim_better hK, sim_spent hK, sim_tell hK, sim_rate hK, sim_keep hK, sim_back hK, sim_count hK, sim_trace N⟩
