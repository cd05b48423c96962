/-- clear: the facts that were known are counted and forgotten -/
theorem cForgetL {r : Nat → Nat → Option Nat} : ∀ (d f : Nat) (c : Nat → Nat → Nat → Int32) (n : Nat) (h : Nat → Int32), f + d = 10 → (∀ j, f ≤ j → j < 10 → h j = c 2 0 j) → ∃ c', Ci (V_X2_forgetAll_4 (d + 1) (nI (rk h f)) (nI f)) (c, r) (nI (rk h 10)) (c', r) ∧ (∀ k, k ≠ 2 → c' k = c k) ∧ (∀ j, f ≤ j → j < 10 → c' 2 0 j = 0) ∧ (∀ j, j < f → c' 2 0 j = c 2 0 j) := by
  intro d
  induction d with
  | zero =>
    intro f c n h hf hh
    have : f = 10 := by omega
    subst this
    exact ⟨c, fun mm K k => br_t (by decide) k, fun _ _ => rfl, fun j h1 h2 => by omega, fun _ _ => rfl⟩
  | succ d ih =>
    intro f c n h hf hh
    have hf4 : f < 10 := by omega
    have hc : (nI f).toNatClampNeg = f := nI_cl (by omega)
    have vi := vin hf4 (by decide)
    by_cases h0 : c 2 0 f = 0
    · obtain ⟨c', p1, p2, p3, p4⟩ := ih (f + 1) c n h (by omega) (fun j a b => hh j (by omega) b)
      have e : rk h (f + 1) = rk h f := by simp [rk, b2n, hh f (Nat.le_refl _) hf4, h0]
      rw [e] at p1
      refine ⟨c', fun mm K k => br_f (nI_lt10 hf4) ⟨vi, br_t (by rw [hc]; exact h0) ?_⟩, p2, fun j h1 h2 => ?_, fun j hj => p4 j (by omega)⟩
      · rw [nI_1]; exact p1 mm K k
      · by_cases hj : j = f
        · subst hj; rw [p4 j (by omega)]; exact h0
        · exact p3 j (by omega) h2
    · obtain ⟨c', p1, p2, p3, p4⟩ := ih (f + 1) (up3 c 2 0 f 0) n h (by omega) (fun j a b => by rw [hh j (by omega) b]; simp [up3]; omega)
      have e : rk h (f + 1) = rk h f + 1 := by simp [rk, b2n, hh f (Nat.le_refl _) hf4, h0]
      rw [e] at p1
      refine ⟨c', fun mm K k => br_f (nI_lt10 hf4) ⟨vi, br_f (by rw [hc]; exact h0) ⟨vi, fun m1 e1 => ?_⟩⟩, fun k hk => by rw [p2 k hk, up3_kn hk], fun j h1 h2 => ?_, fun j hj => by rw [p4 j (by omega)]; simp [up3]; omega⟩
      · subst e1
        rw [hc, nI_1, nI_1]; exact p1 mm K k
      · by_cases hj : j = f
        · subst hj; rw [p4 j (by omega)]; simp [up3]
        · exact p3 j (by omega) h2
theorem mClearL : ∀ (d f : Nat) (mm : MM) (h : Nat → Int32), f + d = 10 → (∀ j, f ≤ j → j < 10 → (h j = 0 ∧ mm 31 j < mm 30 j) ∨ (h j = 1 ∧ mm 30 j ≤ mm 31 j)) → ∃ mm', Mi (V_X8_clear_4 (d + 1) (nI (rk h f)) (nI f)) mm (nI (rk h 10)) (up2 (up2 mm' 22 23 0) 22 24 0) ∧ (∀ k, k ≠ 30 → k ≠ 31 → mm' k = mm k) ∧ (∀ j, f ≤ j → j < 10 → mm' 30 j = 1 ∧ mm' 31 j = 0) ∧ (∀ j, j < f → mm' 30 j = mm 30 j ∧ mm' 31 j = mm 31 j) := by
  intro d
  induction d with
  | zero =>
    intro f mm h hf hh
    have : f = 10 := by omega
    subst this
    refine ⟨mm, fun c K k => br_t (by decide) (fun m1 e1 m2 e2 => ?_), fun _ _ _ => rfl, fun j h1 h2 => by omega, fun _ _ => ⟨rfl, rfl⟩⟩
    subst e1; subst e2; exact k
  | succ d ih =>
    intro f mm h hf hh
    have hf4 : f < 10 := by omega
    have hc : (nI f).toNatClampNeg = f := nI_cl (by omega)
    have vi := vin hf4 (by decide)
    obtain ⟨mm', p1, p2, p3, p4⟩ := ih (f + 1) (up2 (up2 mm 30 f 1) 31 f 0) h (by omega) (fun j a b => by
      have := hh j (by omega) b
      have hj : j ≠ f := by omega
      simpa [up2, hj] using this)
    refine ⟨mm', fun c K k => br_f (nI_lt10 hf4) ⟨vi, vi, ?_⟩, fun k hk hk2 => by rw [p2 k hk hk2, up2_ne hk2, up2_ne hk], fun j h1 h2 => ?_, fun j hj => ?_⟩
    · rw [hc, nI_1]
      rcases hh f (Nat.le_refl _) hf4 with ⟨e0, e1⟩ | ⟨e0, e1⟩
      · have e : rk h (f + 1) = rk h f := by simp [rk, b2n, e0]
        rw [e] at p1
        refine br_t e1 ⟨vi, fun m1 q1 => ⟨vi, fun m2 q2 => ?_⟩⟩
        subst q1; subst q2
        rw [show nI (rk h f) + 0 = nI (rk h f) from nI_add _ 0]
        exact p1 c K k
      · have e : rk h (f + 1) = rk h f + 1 := by simp [rk, b2n, e0]
        rw [e] at p1
        refine br_f (i_nlt.mpr e1) ⟨vi, fun m1 q1 => ⟨vi, fun m2 q2 => ?_⟩⟩
        subst q1; subst q2
        rw [nI_1]
        exact p1 c K k
    · by_cases hj : j = f
      · subst hj
        have := p4 j (by omega)
        rw [this.1, this.2]
        simp [up2]
      · exact p3 j (by omega) h2
    · have := p4 j (by omega)
      have hj : j ≠ f := by omega
      rw [this.1, this.2]
      simp [up2, hj]
theorem sim_clear : Sim V_X7_clear V_X8_clear := by
  rintro ⟨c, r⟩ mm ⟨ns, ⟨h1, h2, h3, h4, h5, h6, h7, h8, h9, h10, h11, h12, h13, h14, h15, h16, h17, h18⟩, hr⟩
  obtain ⟨c', p1, p2, p3, -⟩ := cForgetL (r := r) 10 0 (up3 (up3 c 8 0 3 0) 8 0 2 0) 0 (c 2 0) rfl (fun j _ _ => by simp [up3])
  obtain ⟨mm', q1, q2, q3, -⟩ := mClearL 10 0 mm (c 2 0) rfl (fun j _ hj => by
    rcases h4 j hj with ⟨b1, b2, b3, b4⟩ | ⟨b1, b2⟩
    · refine Or.inr ⟨b1, ?_⟩
      rw [← b2, ← b3]
      exact b4.1
    · exact Or.inl ⟨b1, b2⟩)
  have e : ∀ k, k ≠ 2 → k ≠ 8 → c' k = c k := fun k a b => by rw [p2 k a, up3_kn b, up3_kn b]
  have e8 : c' 8 = up3 (up3 c 8 0 3 0) 8 0 2 0 8 := p2 8 (by decide)
  have f : ∀ k, k ≠ 30 → k ≠ 31 → k ≠ 22 → up2 (up2 mm' 22 23 0) 22 24 0 k = mm k := fun k a b d => by rw [up2_ne d, up2_ne d, q2 k a b]
  have f22 : ∀ j, up2 (up2 mm' 22 23 0) 22 24 0 22 j = if j = 24 then 0 else if j = 23 then 0 else mm 22 j := fun j => by
    have := congrFun (q2 22 (by decide) (by decide)) j
    simp [up2, this]
  refine ⟨nI (rk (c 2 0) 10), (c', r), up2 (up2 mm' 22 23 0) 22 24 0, fun mm K k m1 e1 m2 e2 => ⟨11, ?_⟩, fun c K k => ⟨11, q1 c K k⟩, ns, ⟨?_, ?_, ?_, ?_, ?_, ?_, ?_, ?_, ?_, ?_, ?_, ?_, ?_, ?_, ?_, ?_, ?_, ?_⟩, hr⟩
  · subst e1; subst e2
    exact p1 mm _ k
  · show c' 0 0 5 = _; rw [e 0 (by decide) (by decide)]; exact h1
  · rw [f22]; exact h2
  · show ShareR ns (fun i => c' 11 i 3) (fun i => c' 11 i 4) (c' 12) (c' 13) (c' 14) _ _ _ _ _
    rw [e 11 (by decide) (by decide), e 12 (by decide) (by decide), e 13 (by decide) (by decide), e 14 (by decide) (by decide), f 33 (by decide) (by decide) (by decide), f 34 (by decide) (by decide) (by decide), f 35 (by decide) (by decide) (by decide), f 36 (by decide) (by decide) (by decide), f 37 (by decide) (by decide) (by decide)]
    exact h3
  · intro j hj
    refine Or.inr ⟨p3 j (by omega) hj, ?_⟩
    have := q3 j (by omega) hj
    rw [up2_ne (by decide), up2_ne (by decide), up2_ne (by decide), up2_ne (by decide), this.1, this.2]
    decide
  · show WorkR (fun w => c' 15 w 2) (fun w => c' 15 w 3) _ _
    rw [e 15 (by decide) (by decide), f 50 (by decide) (by decide) (by decide), f 51 (by decide) (by decide) (by decide)]
    exact h5
  · show c' 8 0 1 = nI (rk (fun w => c' 15 w 2) 4)
    rw [e8, e 15 (by decide) (by decide)]
    simpa [up3] using h6
  · show c' 8 0 2 = _
    rw [e8, f22]; simp [up3]
  · show c' 8 0 3 = _
    rw [e8, f22]; simp [up3]
  · show c' 8 0 4 = _
    rw [e8, f22]; simpa [up3] using h9
  · show c' 0 0 7 = _
    rw [e 0 (by decide) (by decide), f22]; exact h10
  · show c' 0 0 8 = _
    rw [e 0 (by decide) (by decide), f22]; exact h11
  · show c' 10 0 0 = _
    rw [e 10 (by decide) (by decide), f22]; exact h12
  · show c' 10 0 1 = _
    rw [e 10 (by decide) (by decide), f22]; exact h13
  · show c' 10 0 2 = _
    rw [e 10 (by decide) (by decide), f22]; exact h14
  · show c' 10 0 3 = _
    rw [e 10 (by decide) (by decide), f22]; exact h15
  · show c' 10 0 4 = _
    rw [e 10 (by decide) (by decide), f22]; exact h16
  · show c' 10 0 5 = _
    rw [e 10 (by decide) (by decide), f22]; exact h17
  · intro i hi
    show c' 11 i 5 = _
    rw [e 11 (by decide) (by decide), f 45 (by decide) (by decide) (by decide)]; exact h18 i hi
