theorem rs0 : RS (va_cpy fs0 (fun _ => 0) 0 0 4) nowFirst := by
  intro k hk
  have e1 : ∀ k, k < 4 → ∀ v, v < 41 → nowFirst (41 * k + v) = if bi (va_cpy fs0 (fun _ => 0) 0 0 4 k) v then 1 else 0 := by decide +kernel
  have e2 : ∀ k, k < 4 → ∀ v, v < 64 → 41 ≤ v → bi (va_cpy fs0 (fun _ => 0) 0 0 4 k) v = false := by decide +kernel
  refine ⟨e1 k hk, fun v hv => ?_⟩
  rcases Nat.lt_or_ge v 64 with h | h
  · exact e2 k hk v h hv
  · exact BitVec.getLsbD_of_ge _ v h
theorem rel_start : rel0 ((va_cpy fs0 (fun _ => 0) 0 0 4)) ((fun _ => 0)) 0 ((fun _ => 0)) ((fun _ => 0)) 0 0 0 0 0 0 0 0 0 0 0 0 ((fun _ => 0)) ((fun _ => 0)) 0 0 ((fun _ => 0)) 0 0 0 0 0 0 0 0 ((fun _ => 0)) nowFirst ((fun _ => 0)) 0 := ⟨rs0, ⟨0, by omega, rfl, rfl, fun i h => absurd h (by omega)⟩, ⟨0, by omega, rfl, rfl, fun _ k => va_cpy fs0 (fun _ => 0) 0 0 4 k, fun _ _ => rfl, fun j h => absurd h (by omega)⟩, Or.inl rfl, Or.inl rfl, Or.inl rfl, Or.inl rfl⟩
set_option maxHeartbeats 8000000 in
set_option maxRecDepth 100000 in
theorem whole_start {p : Program} {e : Env} {s : State} {m : MethodId} {below : List Frame} {meth : Method} {c : Code} (l : Launch) (hflags : l.flags = flags0) {b L : Nat} {xs : Nat → Int32} (hL : L ≤ 2560) (C0 : lw_At p s m meth c b L xs) : W p l e room_1 s m #[Value.ref b] below meth c s.heap [] 0 0 (lw_Z below #[Value.ref b] s) (entryFrame m ([Value.ref b] : List Value).toArray 4) := by
  refine start_walk C0 (fun D cI cL cC cZ hN a_x a_x_slots a_x_script a_x_script_letters a_x_script_sets a_x_history a_x_history_changed a_x_history_before a_x_sums a_x_sums_words a_x_addend a_x_addend_words a_x_grids a_x_grids_factors a_x_pairings a_x_pairings_first a_x_pairings_second a_x_pairings_chosen a_x_pairings_there a_x_pairings_back a_x_pairings_uses a_x_pairings_partnerUses a_x_swellings a_x_swellings_numbers a_x_swellings_low a_x_swellings_high a_x_smallestSets a_m a_m_text a_m_now a_m_before a_m_read a_m_first a_m_second a_m_sums a_m_other a_m_grid a_m_order H locs ls hP hD hS hl => ?_)
  exact law_loop2 C0 hN hL rel0 okp_all (L + 1) 0 (by omega) 0 rfl (by omega) H locs ls ⟨((va_cpy fs0 (fun _ => 0) 0 0 4)), 0, 0, ((fun _ => 0)), ((fun _ => 0)), 0, ((fun _ => 0)), ((fun _ => 0)), ((fun _ => 0)), ((fun _ => 0)), 0, 0, 0, 0, 0, 0, 0, 0, 0, 0, ((fun _ => 0)), 0, 0, 0, 0, 0, ((fun _ => 0)), ((fun _ => 0)), ((fun _ => 0)), ((fun _ => 0)), ((fun _ => 0)), ((fun _ => 0)), ((fun _ => 0)), 0, 0, 0, 0, 0, ((fun _ => 0)), ((fun _ => 0)), ((fun _ => 0)), 0, 0, 0, 0, 0, 0, 0, 0, 0, 0, 0, ((fun _ => 0)), nowFirst, ((fun _ => 0)), ((fun _ => 0)), ((fun _ => 0)), ((fun _ => 0)), ((fun _ => 0)), ((fun _ => 0)), ((fun _ => 0)), ((fun _ => 0)), rel_start, hP, hD, hS⟩ hl
