theorem rk_congr {h h' : Nat → Int32} {n : Nat} (e : ∀ w, w < n → h w = h' w) : rk h n = rk h' n := by
  induction n with
  | zero => rfl
  | succ n ih => simp only [rk]; rw [ih (fun w hw => e w (by omega)), e n (by omega)]
/-- how many workers are there, as the reference counts them -/
theorem mLeftL {mm : MM} {c : MC} {K : Int32 → MW → Prop} (k : K (nI (rk (mm 50) 4)) (c, mm)) : ∀ (d w e : Nat), w + d = 4 → V_X8_workersLeft_4 (d + 1 + e) (nI (rk (mm 50) w)) (nI w) (c, mm) K := by
  intro d
  induction d with
  | zero =>
    intro w e hw
    have : w = 4 := by omega
    subst this
    rw [show 0 + 1 + e = e + 1 by omega]
    exact br_t (by decide) k
  | succ d ih =>
    intro w e hw
    have hw4 : w < 4 := by omega
    have hc : (nI w).toNatClampNeg = w := nI_cl (by omega)
    rw [show d + 1 + 1 + e = (d + 1 + e) + 1 by omega]
    refine br_f (nI_lt4 hw4) ⟨vin hw4 (by decide), ?_⟩
    rw [hc, nI_1, nI_1]
    have ih := ih (w + 1) e (by omega)
    by_cases h0 : mm 50 w = 0
    · refine br_t h0 ?_
      have : rk (mm 50) (w + 1) = rk (mm 50) w := by simp [rk, b2n, h0]
      rw [this] at ih
      rw [show nI (rk (mm 50) w) + 0 = nI (rk (mm 50) w) from nI_add _ 0]
      exact ih
    · refine br_f h0 ?_
      have : rk (mm 50) (w + 1) = rk (mm 50) w + 1 := by simp [rk, b2n, h0]
      rw [this] at ih
      exact ih
theorem mLeft (mm : MM) : Mi V_X8_workersLeft mm (nI (rk (mm 50) 4)) mm := fun c K k => ⟨5, mLeftL k 4 0 0 rfl⟩
theorem mLeft' {mm : MM} {h : Nat → Int32} (e : ∀ w, w < 4 → mm 50 w = h w) : Mi V_X8_workersLeft mm (nI (rk h 4)) mm := by rw [← rk_congr e]; exact mLeft mm
theorem sim_told (x : Int32) : Sim (V_X7_told x) (V_X8_told x) := by
  rintro ⟨c, r⟩ mm ⟨ns, hB, hr⟩
  obtain ⟨h1, h2, h3, h4, h5, h6, h7, h8, h9, h10, h11, h12, h13, h14, h15, h16, h17, h18⟩ := id hB
  have hno : ∀ u, (Ci (V_X7_told x) (c, r) u (c, r) ∧ Mi (V_X8_told x) mm u mm) → ∃ v c' mm', Ci (V_X7_told x) (c, r) v c' ∧ Mi (V_X8_told x) mm v mm' ∧ RR c' mm' := fun u h => ⟨_, _, _, h.1, h.2, ns, hB, hr⟩
  by_cases hx : x.toInt < 0 ∨ 9 < x.toInt
  · have hne : ∀ k : Nat, k ≤ 9 → x ≠ nI k := fun k hk e => by rw [e, nI_t (by omega)] at hx; omega
    refine hno (-2000002) ⟨fun mm K k => ⟨fun _ => k, fun e => absurd e (hne 0 (by omega)), fun e => absurd e (hne 1 (by omega)), fun e => absurd e (hne 2 (by omega)), fun e => absurd e (hne 3 (by omega)), fun e => absurd e (hne 4 (by omega)), fun e => absurd e (hne 5 (by omega)), fun e => absurd e (hne 6 (by omega)), fun e => absurd e (hne 7 (by omega)), fun e => absurd e (hne 8 (by omega)), fun e => absurd e (hne 9 (by omega))⟩, fun c K k => ⟨fun _ => k, fun e => absurd e (hne 0 (by omega)), fun e => absurd e (hne 1 (by omega)), fun e => absurd e (hne 2 (by omega)), fun e => absurd e (hne 3 (by omega)), fun e => absurd e (hne 4 (by omega)), fun e => absurd e (hne 5 (by omega)), fun e => absurd e (hne 6 (by omega)), fun e => absurd e (hne 7 (by omega)), fun e => absurd e (hne 8 (by omega)), fun e => absurd e (hne 9 (by omega))⟩⟩
  · have hw : Mi V_X8_workersLeft mm (c 8 0 1) mm := by
      have h6' : c 8 0 1 = _ := h6
      rw [h6']
      exact mLeft' (fun w hw => (h5 w hw).2.1)
    have key : ∀ k : Nat, k ≤ 9 → x = nI k → ∃ v, Ci (V_X7_told x) (c, r) v (c, r) ∧ Mi (V_X8_told x) mm v mm := by
      intro k hk e
      have ne : ∀ q : Nat, q ≤ 9 → q ≠ k → x ≠ nI q := fun q hq hqk e2 => hqk ((nI_eqL (by omega) (by omega)).mp (e2.symm.trans e))
      rcases (show k = 0 ∨ k = 1 ∨ k = 2 ∨ k = 3 ∨ k = 4 ∨ k = 5 ∨ k = 6 ∨ k = 7 ∨ k = 8 ∨ k = 9 by omega) with rfl | rfl | rfl | rfl | rfl | rfl | rfl | rfl | rfl | rfl
      · exact ⟨c 10 0 0, fun mm K k => ⟨fun h => absurd h hx, fun _ => k, fun e2 => absurd e2 (ne 1 (by omega) (by omega)), fun e2 => absurd e2 (ne 2 (by omega) (by omega)), fun e2 => absurd e2 (ne 3 (by omega) (by omega)), fun e2 => absurd e2 (ne 4 (by omega) (by omega)), fun e2 => absurd e2 (ne 5 (by omega) (by omega)), fun e2 => absurd e2 (ne 6 (by omega) (by omega)), fun e2 => absurd e2 (ne 7 (by omega) (by omega)), fun e2 => absurd e2 (ne 8 (by omega) (by omega)), fun e2 => absurd e2 (ne 9 (by omega) (by omega))⟩, fun c1 K k => ⟨fun h => absurd h hx, fun _ => (show K (mm 22 28) _ by rw [← (show c 10 0 0 = mm 22 28 from h12)]; exact k), fun e2 => absurd e2 (ne 1 (by omega) (by omega)), fun e2 => absurd e2 (ne 2 (by omega) (by omega)), fun e2 => absurd e2 (ne 3 (by omega) (by omega)), fun e2 => absurd e2 (ne 4 (by omega) (by omega)), fun e2 => absurd e2 (ne 5 (by omega) (by omega)), fun e2 => absurd e2 (ne 6 (by omega) (by omega)), fun e2 => absurd e2 (ne 7 (by omega) (by omega)), fun e2 => absurd e2 (ne 8 (by omega) (by omega)), fun e2 => absurd e2 (ne 9 (by omega) (by omega))⟩⟩
      · exact ⟨c 10 0 1, fun mm K k => ⟨fun h => absurd h hx, fun e2 => absurd e2 (ne 0 (by omega) (by omega)), fun _ => k, fun e2 => absurd e2 (ne 2 (by omega) (by omega)), fun e2 => absurd e2 (ne 3 (by omega) (by omega)), fun e2 => absurd e2 (ne 4 (by omega) (by omega)), fun e2 => absurd e2 (ne 5 (by omega) (by omega)), fun e2 => absurd e2 (ne 6 (by omega) (by omega)), fun e2 => absurd e2 (ne 7 (by omega) (by omega)), fun e2 => absurd e2 (ne 8 (by omega) (by omega)), fun e2 => absurd e2 (ne 9 (by omega) (by omega))⟩, fun c1 K k => ⟨fun h => absurd h hx, fun e2 => absurd e2 (ne 0 (by omega) (by omega)), fun _ => (show K (mm 22 29) _ by rw [← (show c 10 0 1 = mm 22 29 from h13)]; exact k), fun e2 => absurd e2 (ne 2 (by omega) (by omega)), fun e2 => absurd e2 (ne 3 (by omega) (by omega)), fun e2 => absurd e2 (ne 4 (by omega) (by omega)), fun e2 => absurd e2 (ne 5 (by omega) (by omega)), fun e2 => absurd e2 (ne 6 (by omega) (by omega)), fun e2 => absurd e2 (ne 7 (by omega) (by omega)), fun e2 => absurd e2 (ne 8 (by omega) (by omega)), fun e2 => absurd e2 (ne 9 (by omega) (by omega))⟩⟩
      · exact ⟨c 10 0 2, fun mm K k => ⟨fun h => absurd h hx, fun e2 => absurd e2 (ne 0 (by omega) (by omega)), fun e2 => absurd e2 (ne 1 (by omega) (by omega)), fun _ => k, fun e2 => absurd e2 (ne 3 (by omega) (by omega)), fun e2 => absurd e2 (ne 4 (by omega) (by omega)), fun e2 => absurd e2 (ne 5 (by omega) (by omega)), fun e2 => absurd e2 (ne 6 (by omega) (by omega)), fun e2 => absurd e2 (ne 7 (by omega) (by omega)), fun e2 => absurd e2 (ne 8 (by omega) (by omega)), fun e2 => absurd e2 (ne 9 (by omega) (by omega))⟩, fun c1 K k => ⟨fun h => absurd h hx, fun e2 => absurd e2 (ne 0 (by omega) (by omega)), fun e2 => absurd e2 (ne 1 (by omega) (by omega)), fun _ => (show K (mm 22 30) _ by rw [← (show c 10 0 2 = mm 22 30 from h14)]; exact k), fun e2 => absurd e2 (ne 3 (by omega) (by omega)), fun e2 => absurd e2 (ne 4 (by omega) (by omega)), fun e2 => absurd e2 (ne 5 (by omega) (by omega)), fun e2 => absurd e2 (ne 6 (by omega) (by omega)), fun e2 => absurd e2 (ne 7 (by omega) (by omega)), fun e2 => absurd e2 (ne 8 (by omega) (by omega)), fun e2 => absurd e2 (ne 9 (by omega) (by omega))⟩⟩
      · exact ⟨c 10 0 3, fun mm K k => ⟨fun h => absurd h hx, fun e2 => absurd e2 (ne 0 (by omega) (by omega)), fun e2 => absurd e2 (ne 1 (by omega) (by omega)), fun e2 => absurd e2 (ne 2 (by omega) (by omega)), fun _ => k, fun e2 => absurd e2 (ne 4 (by omega) (by omega)), fun e2 => absurd e2 (ne 5 (by omega) (by omega)), fun e2 => absurd e2 (ne 6 (by omega) (by omega)), fun e2 => absurd e2 (ne 7 (by omega) (by omega)), fun e2 => absurd e2 (ne 8 (by omega) (by omega)), fun e2 => absurd e2 (ne 9 (by omega) (by omega))⟩, fun c1 K k => ⟨fun h => absurd h hx, fun e2 => absurd e2 (ne 0 (by omega) (by omega)), fun e2 => absurd e2 (ne 1 (by omega) (by omega)), fun e2 => absurd e2 (ne 2 (by omega) (by omega)), fun _ => (show K (mm 22 31) _ by rw [← (show c 10 0 3 = mm 22 31 from h15)]; exact k), fun e2 => absurd e2 (ne 4 (by omega) (by omega)), fun e2 => absurd e2 (ne 5 (by omega) (by omega)), fun e2 => absurd e2 (ne 6 (by omega) (by omega)), fun e2 => absurd e2 (ne 7 (by omega) (by omega)), fun e2 => absurd e2 (ne 8 (by omega) (by omega)), fun e2 => absurd e2 (ne 9 (by omega) (by omega))⟩⟩
      · exact ⟨c 10 0 4, fun mm K k => ⟨fun h => absurd h hx, fun e2 => absurd e2 (ne 0 (by omega) (by omega)), fun e2 => absurd e2 (ne 1 (by omega) (by omega)), fun e2 => absurd e2 (ne 2 (by omega) (by omega)), fun e2 => absurd e2 (ne 3 (by omega) (by omega)), fun _ => k, fun e2 => absurd e2 (ne 5 (by omega) (by omega)), fun e2 => absurd e2 (ne 6 (by omega) (by omega)), fun e2 => absurd e2 (ne 7 (by omega) (by omega)), fun e2 => absurd e2 (ne 8 (by omega) (by omega)), fun e2 => absurd e2 (ne 9 (by omega) (by omega))⟩, fun c1 K k => ⟨fun h => absurd h hx, fun e2 => absurd e2 (ne 0 (by omega) (by omega)), fun e2 => absurd e2 (ne 1 (by omega) (by omega)), fun e2 => absurd e2 (ne 2 (by omega) (by omega)), fun e2 => absurd e2 (ne 3 (by omega) (by omega)), fun _ => (show K (mm 22 32) _ by rw [← (show c 10 0 4 = mm 22 32 from h16)]; exact k), fun e2 => absurd e2 (ne 5 (by omega) (by omega)), fun e2 => absurd e2 (ne 6 (by omega) (by omega)), fun e2 => absurd e2 (ne 7 (by omega) (by omega)), fun e2 => absurd e2 (ne 8 (by omega) (by omega)), fun e2 => absurd e2 (ne 9 (by omega) (by omega))⟩⟩
      · exact ⟨c 10 0 5, fun mm K k => ⟨fun h => absurd h hx, fun e2 => absurd e2 (ne 0 (by omega) (by omega)), fun e2 => absurd e2 (ne 1 (by omega) (by omega)), fun e2 => absurd e2 (ne 2 (by omega) (by omega)), fun e2 => absurd e2 (ne 3 (by omega) (by omega)), fun e2 => absurd e2 (ne 4 (by omega) (by omega)), fun _ => k, fun e2 => absurd e2 (ne 6 (by omega) (by omega)), fun e2 => absurd e2 (ne 7 (by omega) (by omega)), fun e2 => absurd e2 (ne 8 (by omega) (by omega)), fun e2 => absurd e2 (ne 9 (by omega) (by omega))⟩, fun c1 K k => ⟨fun h => absurd h hx, fun e2 => absurd e2 (ne 0 (by omega) (by omega)), fun e2 => absurd e2 (ne 1 (by omega) (by omega)), fun e2 => absurd e2 (ne 2 (by omega) (by omega)), fun e2 => absurd e2 (ne 3 (by omega) (by omega)), fun e2 => absurd e2 (ne 4 (by omega) (by omega)), fun _ => (show K (mm 22 33) _ by rw [← (show c 10 0 5 = mm 22 33 from h17)]; exact k), fun e2 => absurd e2 (ne 6 (by omega) (by omega)), fun e2 => absurd e2 (ne 7 (by omega) (by omega)), fun e2 => absurd e2 (ne 8 (by omega) (by omega)), fun e2 => absurd e2 (ne 9 (by omega) (by omega))⟩⟩
      · exact ⟨c 8 0 3, fun mm K k => ⟨fun h => absurd h hx, fun e2 => absurd e2 (ne 0 (by omega) (by omega)), fun e2 => absurd e2 (ne 1 (by omega) (by omega)), fun e2 => absurd e2 (ne 2 (by omega) (by omega)), fun e2 => absurd e2 (ne 3 (by omega) (by omega)), fun e2 => absurd e2 (ne 4 (by omega) (by omega)), fun e2 => absurd e2 (ne 5 (by omega) (by omega)), fun _ => k, fun e2 => absurd e2 (ne 7 (by omega) (by omega)), fun e2 => absurd e2 (ne 8 (by omega) (by omega)), fun e2 => absurd e2 (ne 9 (by omega) (by omega))⟩, fun c1 K k => ⟨fun h => absurd h hx, fun e2 => absurd e2 (ne 0 (by omega) (by omega)), fun e2 => absurd e2 (ne 1 (by omega) (by omega)), fun e2 => absurd e2 (ne 2 (by omega) (by omega)), fun e2 => absurd e2 (ne 3 (by omega) (by omega)), fun e2 => absurd e2 (ne 4 (by omega) (by omega)), fun e2 => absurd e2 (ne 5 (by omega) (by omega)), fun _ => (show K (mm 22 23) _ by rw [← (show c 8 0 3 = mm 22 23 from h8)]; exact k), fun e2 => absurd e2 (ne 7 (by omega) (by omega)), fun e2 => absurd e2 (ne 8 (by omega) (by omega)), fun e2 => absurd e2 (ne 9 (by omega) (by omega))⟩⟩
      · exact ⟨c 8 0 1, fun mm K k => ⟨fun h => absurd h hx, fun e2 => absurd e2 (ne 0 (by omega) (by omega)), fun e2 => absurd e2 (ne 1 (by omega) (by omega)), fun e2 => absurd e2 (ne 2 (by omega) (by omega)), fun e2 => absurd e2 (ne 3 (by omega) (by omega)), fun e2 => absurd e2 (ne 4 (by omega) (by omega)), fun e2 => absurd e2 (ne 5 (by omega) (by omega)), fun e2 => absurd e2 (ne 6 (by omega) (by omega)), fun _ => k, fun e2 => absurd e2 (ne 8 (by omega) (by omega)), fun e2 => absurd e2 (ne 9 (by omega) (by omega))⟩, fun c1 K k => ⟨fun h => absurd h hx, fun e2 => absurd e2 (ne 0 (by omega) (by omega)), fun e2 => absurd e2 (ne 1 (by omega) (by omega)), fun e2 => absurd e2 (ne 2 (by omega) (by omega)), fun e2 => absurd e2 (ne 3 (by omega) (by omega)), fun e2 => absurd e2 (ne 4 (by omega) (by omega)), fun e2 => absurd e2 (ne 5 (by omega) (by omega)), fun e2 => absurd e2 (ne 6 (by omega) (by omega)), fun _ => hw c1 _ k, fun e2 => absurd e2 (ne 8 (by omega) (by omega)), fun e2 => absurd e2 (ne 9 (by omega) (by omega))⟩⟩
      · exact ⟨c 0 0 5, fun mm K k => ⟨fun h => absurd h hx, fun e2 => absurd e2 (ne 0 (by omega) (by omega)), fun e2 => absurd e2 (ne 1 (by omega) (by omega)), fun e2 => absurd e2 (ne 2 (by omega) (by omega)), fun e2 => absurd e2 (ne 3 (by omega) (by omega)), fun e2 => absurd e2 (ne 4 (by omega) (by omega)), fun e2 => absurd e2 (ne 5 (by omega) (by omega)), fun e2 => absurd e2 (ne 6 (by omega) (by omega)), fun e2 => absurd e2 (ne 7 (by omega) (by omega)), fun _ => k, fun e2 => absurd e2 (ne 9 (by omega) (by omega))⟩, fun c1 K k => ⟨fun h => absurd h hx, fun e2 => absurd e2 (ne 0 (by omega) (by omega)), fun e2 => absurd e2 (ne 1 (by omega) (by omega)), fun e2 => absurd e2 (ne 2 (by omega) (by omega)), fun e2 => absurd e2 (ne 3 (by omega) (by omega)), fun e2 => absurd e2 (ne 4 (by omega) (by omega)), fun e2 => absurd e2 (ne 5 (by omega) (by omega)), fun e2 => absurd e2 (ne 6 (by omega) (by omega)), fun e2 => absurd e2 (ne 7 (by omega) (by omega)), fun _ => (show K (mm 22 2) _ by rw [h2, ← (show c 0 0 5 = nI ns from h1)]; exact k), fun e2 => absurd e2 (ne 9 (by omega) (by omega))⟩⟩
      · exact ⟨c 8 0 4, fun mm K k => ⟨fun h => absurd h hx, fun e2 => absurd e2 (ne 0 (by omega) (by omega)), fun e2 => absurd e2 (ne 1 (by omega) (by omega)), fun e2 => absurd e2 (ne 2 (by omega) (by omega)), fun e2 => absurd e2 (ne 3 (by omega) (by omega)), fun e2 => absurd e2 (ne 4 (by omega) (by omega)), fun e2 => absurd e2 (ne 5 (by omega) (by omega)), fun e2 => absurd e2 (ne 6 (by omega) (by omega)), fun e2 => absurd e2 (ne 7 (by omega) (by omega)), fun e2 => absurd e2 (ne 8 (by omega) (by omega)), fun _ => k⟩, fun c1 K k => ⟨fun h => absurd h hx, fun e2 => absurd e2 (ne 0 (by omega) (by omega)), fun e2 => absurd e2 (ne 1 (by omega) (by omega)), fun e2 => absurd e2 (ne 2 (by omega) (by omega)), fun e2 => absurd e2 (ne 3 (by omega) (by omega)), fun e2 => absurd e2 (ne 4 (by omega) (by omega)), fun e2 => absurd e2 (ne 5 (by omega) (by omega)), fun e2 => absurd e2 (ne 6 (by omega) (by omega)), fun e2 => absurd e2 (ne 7 (by omega) (by omega)), fun e2 => absurd e2 (ne 8 (by omega) (by omega)), fun _ => (show K (mm 22 25) _ by rw [← (show c 8 0 4 = mm 22 25 from h9)]; exact k)⟩⟩
    obtain ⟨k, hk, e⟩ : ∃ k : Nat, k ≤ 9 ∧ x = nI k := by
      rcases ix x 10 (by decide) with h | ⟨j, hj, e⟩
      · exfalso
        rcases h with h | ⟨_, h⟩
        · have := i_lt.mp h
          rw [show (0 : Int32).toInt = 0 from by decide] at this
          omega
        · have := i_le.mp h
          rw [nI_t (by omega)] at this
          omega
      · exact ⟨j, by omega, e⟩
    obtain ⟨v, p⟩ := key k hk e
    exact hno v p
theorem sim_lose (x y : Int32) : Sim (V_X7_lose x y) (V_X8_lose x y) := by
  rintro ⟨c, r⟩ mm ⟨ns, hB, hr⟩
  have hno : ∀ u, (Ci (V_X7_lose x y) (c, r) u (c, r) ∧ Mi (V_X8_lose x y) mm u mm) → ∃ v c' mm', Ci (V_X7_lose x y) (c, r) v c' ∧ Mi (V_X8_lose x y) mm v mm' ∧ RR c' mm' := fun u h => ⟨_, _, _, h.1, h.2, ns, hB, hr⟩
  rcases ix x 4 (by decide) with h | ⟨w, hw, rfl⟩
  · refine hno (-2000001) ⟨fun mm K k => ?_, fun c K k => ?_⟩
    · rcases h with h | ⟨h, h2⟩
      · exact br_t h (nr_f rfl k)
      · exact br_f h (br_t h2 (nr_f rfl k))
    · rcases h with h | ⟨h, h2⟩
      · exact br_t h k
      · refine br_f h (br_t ?_ k)
        have := i_le.mp h2
        rw [nI_t (by omega)] at this
        exact i_lt.mpr (by rw [show (3 : Int32).toInt = 3 from by decide]; omega)
  have hc : (nI w).toNatClampNeg = w := nI_cl (by omega)
  have n3 : ¬ 3 < nI w := fun h => by have := (nI_ltL (a := 3) (by omega) (by omega)).mp h; omega
  obtain ⟨b1, b2, b3, b4⟩ := hB.2.2.2.2.1 w hw
  have b1 : c 15 w 2 = 0 ∨ c 15 w 2 = 1 := b1
  have b2 : mm 50 w = c 15 w 2 := b2
  have vi := vin hw (by decide)
  rcases b1 with b1 | b1
  · refine hno (-2000001) ⟨fun mm K k => br_f (nlt0 (by omega)) (br_f (nI_lt4 hw) ⟨vi, br_t ?_ (nr_f rfl k)⟩), fun c K k => br_f (nlt0 (by omega)) (br_f n3 ⟨vi, nr_f ?_ k⟩)⟩
    · rw [hc]; exact b1
    · rw [hc]; show mm 50 w = 0; rw [b2]; exact b1
  · have q1 : ∀ {m : MW} {K : Int32 → MW → Prop}, m.1.1 15 w 2 = 1 → K 1 m → V_X1_isHere (nI w) m K := fun {m K} e k => br_f (nlt0 (by omega)) (br_f (nI_lt4 hw) ⟨vi, br_f (by rw [hc, e]; decide) k⟩)
    have q2 : ¬ mm 50 (nI w).toNatClampNeg = 0 := by rw [hc, b2, b1]; decide
    by_cases a1 : y < 1
    · exact hno _ ⟨fun mm K k => q1 b1 (nr_t (by decide) (br_t a1 k)), fun c K k => br_f (nlt0 (by omega)) (br_f n3 ⟨vi, nr_t q2 (br_t a1 k)⟩)⟩
    by_cases a2 : y ≤ 100000
    · obtain ⟨h1, h2, h3, h4, h5, h6, h7, h8, h9, h10, h11, h12, h13, h14, h15, h16, h17, h18⟩ := hB
      refine ⟨1, (up3 c 15 w 3 y, r), up2 mm 51 w y, fun mm K k => q1 b1 (nr_t (by decide) (br_f a1 (br_t a2 ⟨vi, fun m1 e1 => ?_⟩))), fun c1 K k => br_f (nlt0 (by omega)) (br_f n3 ⟨vi, nr_t q2 (br_f a1 (br_t a2 ⟨vi, fun m1 e1 => ?_⟩))⟩), ns, ⟨?_, ?_, ?_, ?_, ?_, ?_, ?_, ?_, ?_, ?_, ?_, ?_, ?_, ?_, ?_, ?_, ?_, ?_⟩, hr⟩
      · subst e1; rw [hc]; exact k
      · subst e1; rw [hc]; exact k
      · simpa [up3_kn, up2_ne, up3, up2] using h1
      · simpa [up3_kn, up2_ne, up3, up2] using h2
      · simpa [up3_kn, up2_ne, up3, up2] using h3
      · simpa [up3_kn, up2_ne, up3, up2] using h4
      · intro w' hw'
        have := h5 w' hw'
        by_cases hww : w' = w
        · subst hww
          refine ⟨by simpa [up3] using this.1, by simpa [up3, up2] using this.2.1, by simp [up3, up2], ?_⟩
          have hy : 0 ≤ y := by
            have := i_le.mp (i_nlt.mp a1)
            rw [show (1 : Int32).toInt = 1 from by decide] at this
            exact i_le.mpr (by rw [show (0 : Int32).toInt = 0 from by decide]; omega)
          simpa [up3] using hy
        · simpa [up3, up2, hww] using this
      · simpa [up3_kn, up2_ne, up3, up2] using h6
      · simpa [up3_kn, up2_ne, up3, up2] using h7
      · simpa [up3_kn, up2_ne, up3, up2] using h8
      · simpa [up3_kn, up2_ne, up3, up2] using h9
      · simpa [up3_kn, up2_ne, up3, up2] using h10
      · simpa [up3_kn, up2_ne, up3, up2] using h11
      · simpa [up3_kn, up2_ne, up3, up2] using h12
      · simpa [up3_kn, up2_ne, up3, up2] using h13
      · simpa [up3_kn, up2_ne, up3, up2] using h14
      · simpa [up3_kn, up2_ne, up3, up2] using h15
      · simpa [up3_kn, up2_ne, up3, up2] using h16
      · simpa [up3_kn, up2_ne, up3, up2] using h17
      · simpa [up3_kn, up2_ne, up3, up2] using h18
    · exact hno _ ⟨fun mm K k => q1 b1 (nr_t (by decide) (br_f a1 (br_f a2 k))), fun c K k => br_f (nlt0 (by omega)) (br_f n3 ⟨vi, nr_t q2 (br_f a1 (br_f a2 k))⟩)⟩
/-- hiring: the first n are there, nobody is to be lost -/
def hv (n w : Nat) : Int32 := if w < n then 1 else 0
def hireM (n : Nat) (c : Nat → Nat → Nat → Int32) : Nat → Nat → Nat → Nat → Nat → Int32
  | _, 0 => c
  | w, d + 1 => hireM n (up3 (up3 c 15 w 2 (hv n w)) 15 w 3 0) (w + 1) d
theorem cHireL {n : Nat} (hn : n ≤ 4) {r : Nat → Nat → Option Nat} : ∀ (d w : Nat) (c : Nat → Nat → Nat → Int32), w + d = 4 → Cv (V_X1_hire_7 (d + 1) (nI n) (nI w)) (c, r) (hireM n c w d, r) := by
  intro d
  induction d with
  | zero =>
    intro w c hw mm K k
    have : w = 4 := by omega
    subst this
    exact br_t (by decide) k
  | succ d ih =>
    intro w c hw mm K k
    have hw4 : w < 4 := by omega
    have hc : (nI w).toNatClampNeg = w := nI_cl (by omega)
    have vi := vin hw4 (by decide)
    have ih := ih (w + 1) (up3 (up3 c 15 w 2 (hv n w)) 15 w 3 0) (by omega) mm K k
    refine br_f (nI_lt4 hw4) ⟨vi, ?_⟩
    rw [hc, nI_1]
    by_cases h0 : n ≤ w
    · refine br_t ((nI_leL (by omega) (by omega)).mpr h0) (fun m1 e1 => ⟨vi, fun m2 e2 => ?_⟩)
      subst e1; subst e2
      rw [show hv n w = 0 from if_neg (by omega)] at ih
      exact ih
    · refine br_f (fun h => h0 ((nI_leL (by omega) (by omega)).mp h)) (fun m1 e1 => ⟨vi, fun m2 e2 => ?_⟩)
      subst e1; subst e2
      rw [show hv n w = 1 from if_pos (by omega)] at ih
      exact ih
def hireN (n : Nat) (mm : MM) : Nat → Nat → MM
  | _, 0 => mm
  | w, d + 1 => hireN n (up2 (up2 mm 50 w (hv n w)) 51 w 0) (w + 1) d
theorem mHireL {n : Nat} (hn : n ≤ 4) {v : Int32} : ∀ (d w : Nat) (mm : MM), w + d = 4 → Mi (V_X8_workers_20 (d + 1) (nI n) v (nI w)) mm v (hireN n mm w d) := by
  intro d
  induction d with
  | zero =>
    intro w mm hw c K k
    have : w = 4 := by omega
    subst this
    exact br_t (by decide) k
  | succ d ih =>
    intro w mm hw c K k
    have hw4 : w < 4 := by omega
    have hc : (nI w).toNatClampNeg = w := nI_cl (by omega)
    have vi := vin hw4 (by decide)
    have ih := ih (w + 1) (up2 (up2 mm 50 w (hv n w)) 51 w 0) (by omega) c K k
    refine br_f (nI_lt4 hw4) ?_
    rw [hc, nI_1]
    by_cases h0 : n ≤ w
    · refine br_t ((nI_leL (by omega) (by omega)).mpr h0) ⟨vi, fun m1 e1 => ⟨vi, fun m2 e2 => ?_⟩⟩
      subst e1; subst e2
      rw [show hv n w = 0 from if_neg (by omega)] at ih
      exact ih
    · refine br_f (fun h => h0 ((nI_leL (by omega) (by omega)).mp h)) ⟨vi, fun m1 e1 => ⟨vi, fun m2 e2 => ?_⟩⟩
      subst e1; subst e2
      rw [show hv n w = 1 from if_pos (by omega)] at ih
      exact ih
theorem sim_workers (x : Int32) : Sim (V_X7_workers x) (V_X8_workers x) := by
  rintro ⟨c, r⟩ mm ⟨ns, hB, hr⟩
  have hno : ∀ u, (Ci (V_X7_workers x) (c, r) u (c, r) ∧ Mi (V_X8_workers x) mm u mm) → ∃ v c' mm', Ci (V_X7_workers x) (c, r) v c' ∧ Mi (V_X8_workers x) mm v mm' ∧ RR c' mm' := fun u h => ⟨_, _, _, h.1, h.2, ns, hB, hr⟩
  by_cases a1 : x < 1
  · exact hno _ ⟨fun mm K k => br_t a1 k, fun c K k => br_t a1 k⟩
  by_cases a2 : ¬ x ≤ 4
  · exact hno _ ⟨fun mm K k => br_f a1 (br_f a2 k), fun c K k => br_f a1 (br_f a2 k)⟩
  have a2 : x ≤ 4 := Classical.not_not.mp a2
  obtain ⟨n, hn1, hn4, rfl⟩ : ∃ n : Nat, 1 ≤ n ∧ n ≤ 4 ∧ x = nI n := by
    have t1 := i_le.mp (i_nlt.mp a1)
    have t2 := i_le.mp a2
    rw [show (1 : Int32).toInt = 1 from by decide] at t1
    rw [show (4 : Int32).toInt = 4 from by decide] at t2
    rcases ix x 5 (by decide) with h | ⟨j, hj, e⟩
    · exfalso
      rcases h with h | ⟨_, h⟩
      · have := i_lt.mp h
        rw [show (0 : Int32).toInt = 0 from by decide] at this
        omega
      · have := i_le.mp h
        rw [nI_t (by omega)] at this
        omega
    · refine ⟨j, ?_, by omega, e⟩
      rw [e, nI_t (by omega)] at t1
      omega
  obtain ⟨h1, h2, h3, h4, h5, h6, h7, h8, h9, h10, h11, h12, h13, h14, h15, h16, h17, h18⟩ := hB
  have h6 : c 8 0 1 = nI (rk (fun w => c 15 w 2) 4) := h6
  refine ⟨c 8 0 1, (hireM n (up3 c 8 0 1 (nI n)) 0 4, r), hireN n mm 0 4, fun mm K k => br_f a1 (br_t a2 (fun m1 e1 => ⟨5, ?_⟩)), fun c1 K k => br_f a1 (br_t a2 (mLeft' (h := fun w => c 15 w 2) (fun w hw => (h5 w hw).2.1) c1 _ ⟨5, ?_⟩)), ns, ⟨?_, ?_, ?_, ?_, ?_, ?_, ?_, ?_, ?_, ?_, ?_, ?_, ?_, ?_, ?_, ?_, ?_, ?_⟩, hr⟩
  · subst e1
    exact cHireL hn4 4 0 _ rfl mm _ k
  · rw [h6] at k
    exact mHireL hn4 4 0 mm rfl c1 K k
  · simpa [hireM, hireN, up3_kn, up2_ne, up3, up2] using h1
  · simpa [hireM, hireN, up3_kn, up2_ne, up3, up2] using h2
  · simpa [hireM, hireN, up3_kn, up2_ne, up3, up2] using h3
  · simpa [hireM, hireN, up3_kn, up2_ne, up3, up2] using h4
  · intro w hw
    rcases (show w = 0 ∨ w = 1 ∨ w = 2 ∨ w = 3 by omega) with rfl | rfl | rfl | rfl <;> refine ⟨?_, ?_, ?_, ?_⟩ <;> simp [hireM, hireN, up3, up2, hv] <;> omega
  · have : rk (fun w => hireM n (up3 c 8 0 1 (nI n)) 0 4 15 w 2) 4 = n := by
      rcases (show n = 1 ∨ n = 2 ∨ n = 3 ∨ n = 4 by omega) with rfl | rfl | rfl | rfl <;> simp [rk, b2n, hireM, up3, hv]
    show hireM n (up3 c 8 0 1 (nI n)) 0 4 8 0 1 = nI (rk (fun w => hireM n (up3 c 8 0 1 (nI n)) 0 4 15 w 2) 4)
    rw [this]
    simp [hireM, up3]
  · simpa [hireM, hireN, up3_kn, up2_ne, up3, up2] using h7
  · simpa [hireM, hireN, up3_kn, up2_ne, up3, up2] using h8
  · simpa [hireM, hireN, up3_kn, up2_ne, up3, up2] using h9
  · simpa [hireM, hireN, up3_kn, up2_ne, up3, up2] using h10
  · simpa [hireM, hireN, up3_kn, up2_ne, up3, up2] using h11
  · simpa [hireM, hireN, up3_kn, up2_ne, up3, up2] using h12
  · simpa [hireM, hireN, up3_kn, up2_ne, up3, up2] using h13
  · simpa [hireM, hireN, up3_kn, up2_ne, up3, up2] using h14
  · simpa [hireM, hireN, up3_kn, up2_ne, up3, up2] using h15
  · simpa [hireM, hireN, up3_kn, up2_ne, up3, up2] using h16
  · simpa [hireM, hireN, up3_kn, up2_ne, up3, up2] using h17
  · simpa [hireM, hireN, up3_kn, up2_ne, up3, up2] using h18
