/-! THE LAW: every script -/
theorem RR_first : RR m0.1 m0.2 := by
  refine ⟨0, ⟨rfl, rfl, ⟨by omega, fun i hi => ⟨0, by omega, rfl, rfl, fun _ => rfl, fun j hj => absurd hj (by omega)⟩, fun i hi => absurd hi (by omega)⟩, fun f hf => Or.inr ⟨rfl, ?_⟩, fun w hw => ?_, by decide, rfl, rfl, rfl, rfl, rfl, rfl, rfl, rfl, rfl, rfl, rfl, fun i hi => ?_⟩, fun w hw => rfl⟩
  · show m0m 31 f < m0m 30 f
    simp [m0m]
  · rcases (show w = 0 ∨ w = 1 ∨ w = 2 ∨ w = 3 by omega) with rfl | rfl | rfl | rfl <;> exact ⟨by decide, by decide, by decide, by decide⟩
  · show m0c 11 i 5 = m0m 45 i
    simp [m0c, m0m]
theorem law_pure (L : Nat) (xs : Nat → Int32) (hL : L ≤ 2560) : ∀ (q p : Nat), p ≤ 2600 → L < p + 5 * (q + 1) → ∀ c mm, RR c mm → V_L_law_18 (q + 1) xs L (nI p) (c, mm) := by
  intro q
  induction q with
  | zero =>
    intro p hp hq c mm hR
    have h5 : (nI L - 5).toInt = (L : Int) - 5 := by
      rw [Int32.toInt_sub, nI_t (by omega), show (5 : Int32).toInt = 5 by decide]
      exact Int.bmod_eq_of_le_mul_two (by omega) (by omega)
    exact br_t (by rw [i_lt, h5, nI_t (by omega)]; omega) trivial
  | succ q ih =>
    intro p hp hq c mm hR
    have h5 : (nI L - 5).toInt = (L : Int) - 5 := by
      rw [Int32.toInt_sub, nI_t (by omega), show (5 : Int32).toInt = 5 by decide]
      exact Int.bmod_eq_of_le_mul_two (by omega) (by omega)
    by_cases hlt : L < p + 5
    · exact br_t (by rw [i_lt, h5, nI_t (by omega)]; omega) trivial
    · refine br_f (by rw [i_lt, h5, nI_t (by omega)]; omega) ?_
      have e1 : nI p + 1 = nI (p + 1) := nI_add p 1
      have e2 : nI p + 2 = nI (p + 2) := nI_add p 2
      have e3 : nI p + 3 = nI (p + 3) := nI_add p 3
      have e4 : nI p + 4 = nI (p + 4) := nI_add p 4
      have e5 : nI p + 5 = nI (p + 5) := nI_add p 5
      have v0 : vp_in (nI p) L := vin (by omega) (by omega)
      have v1 : vp_in (nI p + 1) L := by rw [e1]; exact vin (by omega) (by omega)
      have v2 : vp_in (nI p + 2) L := by rw [e2]; exact vin (by omega) (by omega)
      have v3 : vp_in (nI p + 3) L := by rw [e3]; exact vin (by omega) (by omega)
      have v4 : vp_in (nI p + 4) L := by rw [e4]; exact vin (by omega) (by omega)
      have go : ∀ c mm, RR c mm → V_L_law_18 (q + 1) xs L (nI p + 5) (c, mm) := fun c mm h => by
        rw [e5]; exact ih (p + 5) (by omega) (by omega) c mm h
      refine ⟨v0, fun _ => go c mm hR, fun _ => ?_, fun _ => ?_, fun _ => ?_, fun _ => ?_, fun _ => ?_, fun _ => ?_, fun _ => ?_, fun _ => ?_, fun _ => ?_, fun _ => ?_, fun _ => ?_, fun _ => ?_⟩
      · obtain ⟨v, c', mm', hC, hM, hR'⟩ := (sim_share (xs (nI p + 1).toNatClampNeg)) c mm hR
        exact ⟨v1, hC _ _ ⟨v1, hM _ _ ⟨fun _ => go c' mm' hR', fun h => absurd rfl h⟩⟩⟩
      · obtain ⟨v, c', mm', hC, hM, hR'⟩ := (sim_act (xs (nI p + 1).toNatClampNeg) (xs (nI p + 2).toNatClampNeg) (xs (nI p + 3).toNatClampNeg) (xs (nI p + 4).toNatClampNeg)) c mm hR
        exact ⟨v1, v2, v3, v4, hC _ _ ⟨v1, v2, v3, v4, hM _ _ ⟨fun _ => go c' mm' hR', fun h => absurd rfl h⟩⟩⟩
      · obtain ⟨v, c', mm', hC, hM, hR'⟩ := (sim_fact (xs (nI p + 1).toNatClampNeg) (xs (nI p + 2).toNatClampNeg) (xs (nI p + 3).toNatClampNeg)) c mm hR
        exact ⟨v1, v2, v3, hC _ _ ⟨v1, v2, v3, hM _ _ ⟨fun _ => go c' mm' hR', fun h => absurd rfl h⟩⟩⟩
      · obtain ⟨v, c', mm', hC, hM, hR'⟩ := (sim_end (xs (nI p + 1).toNatClampNeg) (xs (nI p + 2).toNatClampNeg)) c mm hR
        exact ⟨v1, v2, hC _ _ ⟨v1, v2, hM _ _ ⟨fun _ => go c' mm' hR', fun h => absurd rfl h⟩⟩⟩
      · obtain ⟨v, c', mm', hC, hM, hR'⟩ := (sim_workers (xs (nI p + 1).toNatClampNeg)) c mm hR
        exact ⟨v1, hC _ _ ⟨v1, hM _ _ ⟨fun _ => go c' mm' hR', fun h => absurd rfl h⟩⟩⟩
      · obtain ⟨v, c', mm', hC, hM, hR'⟩ := (sim_lose (xs (nI p + 1).toNatClampNeg) (xs (nI p + 2).toNatClampNeg)) c mm hR
        exact ⟨v1, v2, hC _ _ ⟨v1, v2, hM _ _ ⟨fun _ => go c' mm' hR', fun h => absurd rfl h⟩⟩⟩
      · obtain ⟨v, c', mm', hC, hM, hR'⟩ := (sim_seed (xs (nI p + 1).toNatClampNeg)) c mm hR
        exact ⟨v1, hC _ _ ⟨v1, hM _ _ ⟨fun _ => go c' mm' hR', fun h => absurd rfl h⟩⟩⟩
      · obtain ⟨v, c', mm', hC, hM, hR'⟩ := (sim_set (xs (nI p + 1).toNatClampNeg) (xs (nI p + 2).toNatClampNeg)) c mm hR
        exact ⟨v1, v2, hC _ _ ⟨v1, v2, hM _ _ ⟨fun _ => go c' mm' hR', fun h => absurd rfl h⟩⟩⟩
      · obtain ⟨v, c', mm', hC, hM, hR'⟩ := (sim_run (xs (nI p + 1).toNatClampNeg)) c mm hR
        exact ⟨v1, hC _ _ ⟨v1, hM _ _ ⟨fun _ => go c' mm' hR', fun h => absurd rfl h⟩⟩⟩
      · obtain ⟨v, c', mm', hC, hM, hR'⟩ := (sim_told (xs (nI p + 1).toNatClampNeg)) c mm hR
        exact ⟨v1, hC _ _ ⟨v1, hM _ _ ⟨fun _ => go c' mm' hR', fun h => absurd rfl h⟩⟩⟩
      · obtain ⟨v, c', mm', hC, hM, hR'⟩ := (sim_doer (xs (nI p + 1).toNatClampNeg)) c mm hR
        exact ⟨v1, hC _ _ ⟨v1, hM _ _ ⟨fun _ => go c' mm' hR', fun h => absurd rfl h⟩⟩⟩
      · obtain ⟨v, c', mm', hC, hM, hR'⟩ := sim_clear c mm hR
        exact hC _ _ (hM _ _ ⟨fun _ => go c' mm' hR', fun h => absurd rfl h⟩)
theorem hpure (L : Nat) (xs : Nat → Int32) (hL : L ≤ 2560) : ∃ n, V_L_law_18 n xs L 0 m0 := ⟨_, law_pure L xs hL L 0 (by omega) (by omega) m0.1 m0.2 RR_first⟩
