/-! RUN -/
theorem BaseR_fact {c c' : Nat → Nat → Nat → Int32} {r r' : Nat → Nat → Option Nat} {mm mm' : MM} {ns : Nat} (hB : BaseR (c, r) mm ns) (hF : FactR (c' 2 0) (c' 3 0) (c' 4 0) (mm' 30) (mm' 31)) (fc : ∀ k, k ≠ 2 → k ≠ 3 → k ≠ 4 → c' k = c k) (fm : ∀ k, k ≠ 30 → k ≠ 31 → mm' k = mm k) : BaseR (c', r') mm' ns := by
  obtain ⟨h1, h2, h3, h4, h5, h6, h7, h8, h9, h10, h11, h12, h13, h14, h15, h16, h17, h18⟩ := hB
  have e0 := fc 0 (by decide) (by decide) (by decide)
  have e8 := fc 8 (by decide) (by decide) (by decide)
  have e10 := fc 10 (by decide) (by decide) (by decide)
  have e11 := fc 11 (by decide) (by decide) (by decide)
  have e12 := fc 12 (by decide) (by decide) (by decide)
  have e13 := fc 13 (by decide) (by decide) (by decide)
  have e14 := fc 14 (by decide) (by decide) (by decide)
  have e15 := fc 15 (by decide) (by decide) (by decide)
  have m22 := fm 22 (by decide) (by decide)
  have m33 := fm 33 (by decide) (by decide)
  have m34 := fm 34 (by decide) (by decide)
  have m35 := fm 35 (by decide) (by decide)
  have m36 := fm 36 (by decide) (by decide)
  have m37 := fm 37 (by decide) (by decide)
  have m45 := fm 45 (by decide) (by decide)
  have m50 := fm 50 (by decide) (by decide)
  have m51 := fm 51 (by decide) (by decide)
  unfold BaseR
  simp only [e0, e8, e10, e11, e12, e13, e14, e15, m22, m33, m34, m35, m36, m37, m45, m50, m51]
  exact ⟨h1, h2, h3, hF, h5, h6, h7, h8, h9, h10, h11, h12, h13, h14, h15, h16, h17, h18⟩
section
variable {ns : Nat}
theorem join_loop {r : Nat → Nat → Option Nat} {x y1 y2 y3 : Int32} (hx : x = 0 ∨ x = 1) : ∀ (d i : Nat) (c : Nat → Nat → Nat → Int32) (mm : MM) (y : Int32), i + d = ns → BaseR (c, r) mm ns → (∀ s, s < ns → Ans c mm s) → (y = 0 ∨ y = 1) → (x = 0 ↔ y3 < mm 22 26) →
    ∃ v c' mm', (v = 0 ∨ v = 1) ∧ BaseR (c', r) mm' ns ∧ c' 11 = c 11 ∧ (∀ mm K, K v ((c', r), mm) → V_X7_joinAnswers_4 (d + 1) x y (nI i) ((c, r), mm) K) ∧ (∀ C (O : Int32 → Int32 → Int32 → MW → Prop) K, ((¬ v = 0 → O y1 y2 (y3 + 1) (C, mm')) ∧ (v = 0 → K 0 (C, mm'))) → V_X8_run_176 (d + 1) y1 y2 y3 y (nI i) O (C, mm) K) := by
  intro d
  induction d with
  | zero =>
    intro i c mm y hi hB hA hy hw
    have : i = ns := by omega
    subst this
    have h5 : c 0 0 5 = nI i := hB.1
    have h2 : mm 22 2 = nI i := hB.2.1
    refine ⟨y, c, mm, hy, hB, rfl, fun mm K k => br_t ?_ ⟨hy, k⟩, fun C O K k => br_t ?_ k⟩
    · show c 0 0 5 ≤ nI i; rw [h5, i_le]; omega
    · show mm 22 2 ≤ nI i; rw [h2, i_le]; omega
  | succ d ih =>
    intro i c mm y hi hB hA hy hw
    have hns : ns ≤ 10 := hB.2.2.1.1
    have h5 : c 0 0 5 = nI ns := hB.1
    have h2 : mm 22 2 = nI ns := hB.2.1
    have hc : (nI i).toNatClampNeg = i := nI_cl (by omega)
    obtain ⟨f, f1, f2, f3⟩ := hB.2.2.1.2.2 i (by omega)
    obtain ⟨v, c1, mm1, q1, q2, q3, q4, q5, q6⟩ := join_sim (r := r) hx (by omega) f1 f2 f3 (hA i (by omega)) hB.2.2.2.1
    have hB1 : BaseR (c1, r) mm1 ns := BaseR_fact hB q4 q5 q6
    have hA1 : ∀ s, s < ns → Ans c1 mm1 s := fun s hs => by
      have := hA s hs
      unfold Ans
      rw [q5 11 (by decide) (by decide) (by decide), q6 39 (by decide) (by decide), q6 40 (by decide) (by decide), q6 41 (by decide) (by decide)]
      exact this
    have hw1 : x = 0 ↔ y3 < mm1 22 26 := by rw [q6 22 (by decide) (by decide)]; exact hw
    have hy1 : (if v = 0 then y else 1) = 0 ∨ (if v = 0 then y else 1) = (1 : Int32) := by
      split
      · exact hy
      · exact Or.inr rfl
    obtain ⟨v', c', mm', z1, z2, z3, z4, z5⟩ := ih (i + 1) c1 mm1 (if v = 0 then y else 1) (by omega) hB1 hA1 hy1 hw1
    refine ⟨v', c', mm', z1, z2, by rw [z3, q5 11 (by decide) (by decide) (by decide)], fun mm K k => ?_, fun C O K k => ?_⟩
    · refine br_f (show ¬ c 0 0 5 ≤ nI i by rw [h5]; exact fun g => by have := (nI_leL (by omega) (by omega)).mp g; omega) ⟨vin (by omega) (by decide), ?_⟩
      rw [hc, nI_1]
      refine q2 mm _ ?_
      have := z4 mm K k
      rcases q1 with rfl | rfl
      · exact br_t rfl this
      · exact br_f (by decide) this
    · refine br_f (show ¬ mm 22 2 ≤ nI i by rw [h2]; exact fun g => by have := (nI_leL (by omega) (by omega)).mp g; omega) ?_
      rw [nI_1]
      have := z5 C O K k
      have fin : (¬ v = 0 → V_X8_run_176 (d + 1) y1 y2 y3 1 (nI (i + 1)) O (C, mm1) K) ∧ (v = 0 → (y = 0 → V_X8_run_176 (d + 1) y1 y2 y3 0 (nI (i + 1)) O (C, mm1) K) ∧ (¬ y = 0 → V_X8_run_176 (d + 1) y1 y2 y3 1 (nI (i + 1)) O (C, mm1) K)) := by
        rcases q1 with rfl | rfl
        · refine nr_f rfl ?_
          rcases hy with rfl | rfl
          · exact br_t rfl this
          · exact br_f (by decide) this
        · exact nr_t (by decide) this
      rcases hx with rfl | rfl
      · exact br_t (hw.mp rfl) (q3 C _ fin)
      · exact br_f (fun g => absurd (hw.mpr g) (by decide)) (q3 C _ fin)
def sm (A : Nat → Int32) : Nat → Int32
  | 0 => 0
  | n + 1 => sm A n + A n
theorem sm_congr {A B : Nat → Int32} : ∀ {n : Nat}, (∀ i, i < n → A i = B i) → sm A n = sm B n
  | 0, _ => rfl
  | n + 1, h => by unfold sm; rw [sm_congr (fun i hi => h i (by omega)), h n (by omega)]
theorem cActs {c : Nat → Nat → Nat → Int32} {r : Nat → Nat → Option Nat} {mm : MM} {K : Int32 → MW → Prop} (h5 : c 0 0 5 = nI ns) (hns : ns ≤ 10) (k : K (sm (fun i => c 11 i 4) ns) ((c, r), mm)) : V_X7_actsOfAllShares ((c, r), mm) K := by
  have key : ∀ d i, i + d = ns → V_X7_actsOfAllShares_4 (d + 1) (sm (fun i => c 11 i 4) i) (nI i) ((c, r), mm) K := by
    intro d
    induction d with
    | zero =>
      intro i hi
      have : i = ns := by omega
      subst this
      exact br_t (show c 0 0 5 ≤ nI i by rw [h5, i_le]; omega) k
    | succ d ih =>
      intro i hi
      have hc : (nI i).toNatClampNeg = i := nI_cl (by omega)
      refine br_f (show ¬ c 0 0 5 ≤ nI i by rw [h5]; exact fun g => by have := (nI_leL (by omega) (by omega)).mp g; omega) ⟨vin (by omega) (by decide), ?_⟩
      rw [hc, nI_1]
      exact ih (i + 1) (by omega)
  exact ⟨ns + 1, key ns 0 (by omega)⟩
theorem mActs {C : MC} {mm : MM} {y1 : Int32} {K : Int32 → MW → Prop} (h2 : mm 22 2 = nI ns) (hns : ns ≤ 10) (k : ∃ q, V_X8_run_74 q y1 (sm (mm 34) ns) 1 (C, mm) K) : ∃ q, V_X8_run_49 q y1 0 0 (C, mm) K := by
  have key : ∀ d i, i + d = ns → V_X8_run_49 (d + 1) y1 (sm (mm 34) i) (nI i) (C, mm) K := by
    intro d
    induction d with
    | zero =>
      intro i hi
      have : i = ns := by omega
      subst this
      exact br_t (show mm 22 2 ≤ nI i by rw [h2, i_le]; omega) k
    | succ d ih =>
      intro i hi
      have hc : (nI i).toNatClampNeg = i := nI_cl (by omega)
      refine br_f (show ¬ mm 22 2 ≤ nI i by rw [h2]; exact fun g => by have := (nI_leL (by omega) (by omega)).mp g; omega) ⟨vin (by omega) (by decide), ?_⟩
      rw [hc, nI_1]
      exact ih (i + 1) (by omega)
  exact ⟨ns + 1, key ns 0 (by omega)⟩
theorem cLeast {c : Nat → Nat → Nat → Int32} {r : Nat → Nat → Option Nat} {mm : MM} {K : Int32 → MW → Prop} (h5 : c 0 0 5 = nI ns) (hns : ns ≤ 10) {q : Nat} (hq : q < ns) (h : ∀ j, j < q → c 11 j 6 = 0) (h' : ¬ c 11 q 6 = 0) (k : K (nI q) ((c, r), mm)) : V_X7_leastSpoilt ((c, r), mm) K := by
  have key : ∀ d i, i + d = q → V_X7_leastSpoilt_2 (d + 1) (nI i) ((c, r), mm) K := by
    intro d
    induction d with
    | zero =>
      intro i hi
      have : i = q := by omega
      subst this
      have hc : (nI i).toNatClampNeg = i := nI_cl (by omega)
      refine br_f (show ¬ c 0 0 5 ≤ nI i by rw [h5]; exact fun g => by have := (nI_leL (by omega) (by omega)).mp g; omega) ⟨vin (by omega) (by decide), br_f ?_ k⟩
      rw [hc]; exact h'
    | succ d ih =>
      intro i hi
      have hc : (nI i).toNatClampNeg = i := nI_cl (by omega)
      refine br_f (show ¬ c 0 0 5 ≤ nI i by rw [h5]; exact fun g => by have := (nI_leL (by omega) (by omega)).mp g; omega) ⟨vin (by omega) (by decide), br_t ?_ ?_⟩
      · rw [hc]; exact h i (by omega)
      · rw [nI_1]; exact ih (i + 1) (by omega)
  exact ⟨q + 1, key q 0 (by omega)⟩
theorem cFine {c : Nat → Nat → Nat → Int32} {r : Nat → Nat → Option Nat} {mm : MM} {K : Int32 → MW → Prop} (h5 : c 0 0 5 = nI ns) (hns : ns ≤ 10) (h : ∀ j, j < ns → c 11 j 6 = 0) (k : K (-2000000) ((c, r), mm)) : V_X7_leastSpoilt ((c, r), mm) K := by
  have key : ∀ d i, i + d = ns → V_X7_leastSpoilt_2 (d + 1) (nI i) ((c, r), mm) K := by
    intro d
    induction d with
    | zero =>
      intro i hi
      have : i = ns := by omega
      subst this
      exact br_t (show c 0 0 5 ≤ nI i by rw [h5, i_le]; omega) k
    | succ d ih =>
      intro i hi
      have hc : (nI i).toNatClampNeg = i := nI_cl (by omega)
      refine br_f (show ¬ c 0 0 5 ≤ nI i by rw [h5]; exact fun g => by have := (nI_leL (by omega) (by omega)).mp g; omega) ⟨vin (by omega) (by decide), br_t ?_ ?_⟩
      · rw [hc]; exact h i (by omega)
      · rw [nI_1]; exact ih (i + 1) (by omega)
  exact ⟨ns + 1, key ns 0 (by omega)⟩
theorem m91_bad {C : MC} {mm : MM} {y1 y2 y3 : Int32} {O : Int32 → Int32 → Int32 → MW → Prop} {K : Int32 → MW → Prop} (h2 : mm 22 2 = nI ns) (hns : ns ≤ 10) {q : Nat} (hq : q < ns) (h : ∀ j, j < q → mm 44 j = 0) (h' : 0 < mm 44 q) (k : K 2 (C, up2 (up2 mm 22 29 (nI q)) 22 30 (mm 44 q))) : ∃ t, V_X8_run_91 t y1 y2 y3 0 O (C, mm) K := by
  have key : ∀ d i, i + d = q → V_X8_run_91 (d + 1) y1 y2 y3 (nI i) O (C, mm) K := by
    intro d
    induction d with
    | zero =>
      intro i hi
      have : i = q := by omega
      subst this
      have hc : (nI i).toNatClampNeg = i := nI_cl (by omega)
      refine br_f (show ¬ mm 22 2 ≤ nI i by rw [h2]; exact fun g => by have := (nI_leL (by omega) (by omega)).mp g; omega) ⟨vin (by omega) (by decide), br_f ?_ ?_⟩
      · rw [hc]; exact i_nle.mpr h'
      · intro m1 e1
        subst e1
        refine ⟨vin (by omega) (by decide), fun m2 e2 => ?_⟩
        subst e2
        simp only [hc, up2_ne (show (44 : Nat) ≠ 22 by decide)]
        exact k
    | succ d ih =>
      intro i hi
      have hc : (nI i).toNatClampNeg = i := nI_cl (by omega)
      refine br_f (show ¬ mm 22 2 ≤ nI i by rw [h2]; exact fun g => by have := (nI_leL (by omega) (by omega)).mp g; omega) ⟨vin (by omega) (by decide), br_t ?_ ?_⟩
      · rw [hc]; show mm 44 i ≤ 0; rw [h i (by omega)]; decide
      · rw [nI_1]; exact ih (i + 1) (by omega)
  exact ⟨q + 1, key q 0 (by omega)⟩
theorem m91_fine {C : MC} {mm : MM} {y1 y2 y3 : Int32} {O : Int32 → Int32 → Int32 → MW → Prop} {K : Int32 → MW → Prop} (h2 : mm 22 2 = nI ns) (hns : ns ≤ 10) (h : ∀ j, j < ns → mm 44 j = 0) (k : (mm 22 31 + y2 ≤ mm 22 27 → ∃ t, V_X8_run_176 t y1 y2 y3 0 0 O (C, up2 (up2 mm 22 31 (mm 22 31 + y2)) 22 28 (mm 22 28 + 1)) K) ∧ (¬ mm 22 31 + y2 ≤ mm 22 27 → K 4 (C, mm))) : ∃ t, V_X8_run_91 t y1 y2 y3 0 O (C, mm) K := by
  have key : ∀ d i, i + d = ns → V_X8_run_91 (d + 1) y1 y2 y3 (nI i) O (C, mm) K := by
    intro d
    induction d with
    | zero =>
      intro i hi
      have : i = ns := by omega
      subst this
      refine br_t (show mm 22 2 ≤ nI i by rw [h2, i_le]; omega) ⟨fun g => ?_, k.2⟩
      intro m1 e1 m2 e2
      subst e1; subst e2
      have u1 : up2 mm 22 31 (mm 22 31 + y2) 22 28 = mm 22 28 := by simp [up2]
      simp only [u1]
      exact k.1 g
    | succ d ih =>
      intro i hi
      have hc : (nI i).toNatClampNeg = i := nI_cl (by omega)
      refine br_f (show ¬ mm 22 2 ≤ nI i by rw [h2]; exact fun g => by have := (nI_leL (by omega) (by omega)).mp g; omega) ⟨vin (by omega) (by decide), br_t ?_ ?_⟩
      · rw [hc]; show mm 44 i ≤ 0; rw [h i (by omega)]; decide
      · rw [nI_1]; exact ih (i + 1) (by omega)
  exact ⟨ns + 1, key ns 0 (by omega)⟩
theorem least_ex {p : Nat → Prop} (n : Nat) : (∃ q, q < n ∧ ¬ p q ∧ ∀ j, j < q → p j) ∨ ∀ j, j < n → p j := by
  induction n with
  | zero => exact Or.inr fun j hj => by omega
  | succ n ih =>
    rcases ih with ⟨q, a, b, d⟩ | h
    · exact Or.inl ⟨q, by omega, b, d⟩
    · by_cases z : p n
      · exact Or.inr fun j hj => by
          by_cases e : j = n
          · rw [e]; exact z
          · exact h j (by omega)
      · exact Or.inl ⟨n, by omega, z, h⟩
end
section
variable {ns : Nat}
/-- the tallies change alike -/
theorem BaseR_tally {c c' : Nat → Nat → Nat → Int32} {r r' : Nat → Nat → Option Nat} {mm mm' : MM} (hB : BaseR (c, r) mm ns) (fc : ∀ k i j, ¬ (k = 10 ∧ i = 0) → c' k i j = c k i j) (fm : ∀ k j, ¬ (k = 22 ∧ 28 ≤ j ∧ j ≤ 33) → mm' k j = mm k j) (ht : ∀ j, j < 6 → c' 10 0 j = mm' 22 (28 + j)) : BaseR (c', r') mm' ns := by
  have e2 : (fun i => c' 15 i 2) = fun i => c 15 i 2 := funext fun i => fc _ _ _ (by omega)
  have e3 : (fun i => c' 15 i 3) = fun i => c 15 i 3 := funext fun i => fc _ _ _ (by omega)
  have em : ∀ k, k ≠ 22 → mm' k = mm k := fun k hk => funext fun j => fm _ _ (by omega)
  have hW := hB.2.2.2.2.1
  have h6 := hB.2.2.2.2.2.1
  refine BaseR_mk hB (fun k i j hk => fc _ _ _ (by omega)) (fun k j hk => fm _ _ (by omega)) ?_ ?_ ?_ ?_ ?_ ht (fun i hi => ?_)
  · rw [e2, e3, em 50 (by omega), em 51 (by omega)]; exact hW
  · rw [fc 8 0 1 (by omega), e2]; exact h6
  · rw [fc 8 0 2 (by omega), fm 22 24 (by omega)]; exact hB.2.2.2.2.2.2.1
  · rw [fc 8 0 3 (by omega), fm 22 23 (by omega)]; exact hB.2.2.2.2.2.2.2.1
  · rw [fc 8 0 4 (by omega), fm 22 25 (by omega)]; exact hB.2.2.2.2.2.2.2.2.1
  · rw [fc 11 i 5 (by omega), em 45 (by omega)]; exact hB.2.2.2.2.2.2.2.2.2.2.2.2.2.2.2.2.2 i hi
theorem round_step {c : Nat → Nat → Nat → Int32} {r : Nat → Nat → Option Nat} {mm : MM} (hB : BaseR (c, r) mm ns) (hr : ∀ w, w < 4 → r 0 w = none) (y1 y3 each : Int32) (he : each = sm (fun i => c 11 i 4) ns) :
    ∃ v c' r' mm', BaseR (c', r') mm' ns ∧ (∀ w, w < 4 → r' 0 w = none) ∧ (∀ i, c' 11 i 4 = c 11 i 4) ∧
      (∀ mm K, K v ((c', r'), mm) → V_X7_playRound y3 ((c, r), mm) K) ∧
      (∀ C (O : Int32 → Int32 → Int32 → MW → Prop) K, ((v = 1 → O y1 each (y3 + 1) (C, mm')) ∧ (¬ v = 1 → K v (C, mm'))) → V_X8_round (C, mm) (fun v8 m7 => (¬ v8 = 0 → ∃ k, V_X8_run_91 k y1 each y3 0 O m7 K) ∧ (v8 = 0 → K 3 m7))) := by
  obtain ⟨c1, r1, mm1, fi, u, rem, hI, ht, h11, hC, hM⟩ := round_sim hB hr
  have hB1 := hI.1
  have hns : ns ≤ 10 := hB1.2.2.1.1
  have hu : c1 0 0 6 = nI u := hI.2.2.2.2.1
  have hul : u ≤ ns := by rw [hI.2.2.2.2.2.1]; exact ct_le _ _
  by_cases h0 : u = 0
  · subst h0
    have hr1 : ∀ w, w < 4 → r1 0 w = none := by
      have hz : hn r1 = 0 := by have := hI.2.2.2.2.2.2; have := hI.2.1.1; omega
      intro w hw
      have := ct_zero hz w hw
      cases hq : r1 0 w with
      | none => rfl
      | some s => rw [hq] at this; simp at this
    have hDn : ∀ s, s < ns → Dn c1 mm1 s := by
      intro s hs
      rcases hI.2.2.2.1 s hs with h | ⟨_, h⟩
      · have := ct_zero (p := fun j => decide (mm1 46 j = 0)) (n := ns) (by show cz (mm1 46) ns = 0; exact hI.2.2.2.2.2.1.symm) s hs
        simp [h] at this
      · exact h
    have h5 : c1 0 0 5 = nI ns := hB1.1
    have h2 : mm1 22 2 = nI ns := hB1.2.1
    have hC1 : ∀ mm K, V_X7_leastSpoilt ((c1, r1), mm) (fun v3 m2 => ((v3 = (-2000000) → (V_X7_actsOfAllShares m2 (fun v5 m4 => ((((m2.1.1 10 0 3) + v5) ≤ (m4.1.1 0 0 8) → (∀ m6 : MW, m6 = ((up3 m4.1.1 10 0 3 ((m2.1.1 10 0 3) + v5), m4.1.2), m4.2) → (∀ m7 : MW, m7 = ((up3 m6.1.1 10 0 0 ((m6.1.1 10 0 0) + 1), m6.1.2), m6.2) → ((y3 < (m7.1.1 0 0 7) → (V_X7_joinAnswers (0) m7 (fun v9 m8 => ((v9 = 0 → (K 0 m8)) ∧ (¬ v9 = 0 → (K 1 m8)))))) ∧ (¬ y3 < (m7.1.1 0 0 7) → (V_X7_joinAnswers (1) m7 (fun v11 m10 => ((v11 = 0 → (K 0 m10)) ∧ (¬ v11 = 0 → (K 1 m10)))))))))) ∧ (¬ ((m2.1.1 10 0 3) + v5) ≤ (m4.1.1 0 0 8) → (K 4 m4)))))) ∧ (¬ v3 = (-2000000) → (∀ m12 : MW, m12 = ((up3 m2.1.1 10 0 1 v3, m2.1.2), m2.2) → (vp_in v3 10 ∧ (∀ m14 : MW, m14 = ((up3 m12.1.1 10 0 2 (m12.1.1 11 (v3).toNatClampNeg 6), m12.1.2), m12.2) → (K 2 m14))))))) → V_X7_playRound y3 ((c, r), mm) K := fun mm K k => hC y3 mm K (br_t (show c1 0 0 6 ≤ 0 by rw [hu]; decide) k)
    have hM1 : ∀ C (O : Int32 → Int32 → Int32 → MW → Prop) K, (∃ k, V_X8_run_91 k y1 each y3 0 O (C, mm1) K) → V_X8_round (C, mm) (fun v8 m7 => (¬ v8 = 0 → ∃ k, V_X8_run_91 k y1 each y3 0 O m7 K) ∧ (v8 = 0 → K 3 m7)) := fun C O K k => hM C _ (nr_t (show ¬ dv 0 = 0 by decide) k)
    rcases least_ex (p := fun j => c1 11 j 6 = 0) ns with ⟨q, q1, q2, q3⟩ | hall
    · -- one is spoilt
      have hq44 : ∀ j, j < q → mm1 44 j = 0 := fun j hj => by
        obtain ⟨e, e1, e2, e3, _⟩ := hDn j (by omega)
        rw [e3, ← e2]; exact q3 j hj
      obtain ⟨e, e1, e2, e3, _⟩ := hDn q q1
      have hpos : 0 < mm1 44 q := by
        rw [e3]
        have : e ≠ 0 := fun z => q2 (by rw [z] at e2; exact e2)
        exact (nI_ltL (a := 0) (by omega) (by omega)).mpr (by omega)
      have hcq : (nI q).toNatClampNeg = q := nI_cl (by omega)
      have hne : ¬ nI q = -2000000 := fun g => by
        have := i_eq.mp g
        rw [nI_t (by omega), show (-2000000 : Int32).toInt = -2000000 by decide] at this
        omega
      refine ⟨2, up3 (up3 c1 10 0 1 (nI q)) 10 0 2 (c1 11 q 6), r1, up2 (up2 mm1 22 29 (nI q)) 22 30 (mm1 44 q), ?_, hr1, fun i => ?_, fun mm K k => ?_, fun C O K k => ?_⟩
      · refine BaseR_tally hB1 (fun k i j hk => by unfold up3; rw [if_neg (by omega), if_neg (by omega)]) (fun k j hk => by unfold up2; rw [if_neg (by omega), if_neg (by omega)]) (fun j hj => ?_)
        have := Base_t hB1 j hj
        rcases (show j = 0 ∨ j = 1 ∨ j = 2 ∨ j = 3 ∨ j = 4 ∨ j = 5 by omega) with rfl | rfl | rfl | rfl | rfl | rfl
        · simpa [up3, up2] using this
        · simp [up3, up2]
        · simp [up3, up2]; rw [e2, e3]
        · simpa [up3, up2] using this
        · simpa [up3, up2] using this
        · simpa [up3, up2] using this
      · rw [← h11 i]; simp [up3]
      · refine hC1 mm K (cLeast h5 hns q1 q3 q2 (br_f hne ?_))
        intro m12 z12
        subst z12
        refine ⟨vin (by omega) (by decide), fun m14 z14 => ?_⟩
        subst z14
        simp only [hcq, up3_kn (show (11 : Nat) ≠ 10 by decide)]
        exact k
      · exact hM1 C O K (m91_bad h2 hns q1 hq44 hpos (k.2 (by decide)))
    · have hq44 : ∀ j, j < ns → mm1 44 j = 0 := fun j hj => by
        obtain ⟨e, e1, e2, e3, _⟩ := hDn j hj
        rw [e3, ← e2]; exact hall j hj
      have hAns : ∀ s, s < ns → Ans c1 mm1 s := fun s hs => by
        obtain ⟨e, e1, e2, e3, e4⟩ := hDn s hs
        have : e = 0 := (nI_eqL (b := 0) (by omega) (by omega)).mp (e2.symm.trans (hall s hs))
        exact e4 this
      have hsm : sm (fun i => c1 11 i 4) ns = each := by
        rw [he]; exact sm_congr fun i _ => h11 i
      have t3 : c1 10 0 3 = mm1 22 31 := Base_t hB1 3 (by decide)
      have b8 : c1 0 0 8 = mm1 22 27 := hB1.2.2.2.2.2.2.2.2.2.2.1
      have b7 : c1 0 0 7 = mm1 22 26 := hB1.2.2.2.2.2.2.2.2.2.1
      by_cases hb : c1 10 0 3 + each ≤ c1 0 0 8
      · have hbm : mm1 22 31 + each ≤ mm1 22 27 := by rw [← t3, ← b8]; exact hb
        have hB2 : BaseR (up3 (up3 c1 10 0 3 (c1 10 0 3 + each)) 10 0 0 (c1 10 0 0 + 1), r1) (up2 (up2 mm1 22 31 (mm1 22 31 + each)) 22 28 (mm1 22 28 + 1)) ns := by
          refine BaseR_tally hB1 (fun k i j hk => by unfold up3; rw [if_neg (by omega), if_neg (by omega)]) (fun k j hk => by unfold up2; rw [if_neg (by omega), if_neg (by omega)]) (fun j hj => ?_)
          have := Base_t hB1 j hj
          rcases (show j = 0 ∨ j = 1 ∨ j = 2 ∨ j = 3 ∨ j = 4 ∨ j = 5 by omega) with rfl | rfl | rfl | rfl | rfl | rfl
          · simp [up3, up2]; exact this
          · simpa [up3, up2] using this
          · simpa [up3, up2] using this
          · simp [up3, up2]; exact t3
          · simpa [up3, up2] using this
          · simpa [up3, up2] using this
        have hA2 : ∀ s, s < ns → Ans (up3 (up3 c1 10 0 3 (c1 10 0 3 + each)) 10 0 0 (c1 10 0 0 + 1)) (up2 (up2 mm1 22 31 (mm1 22 31 + each)) 22 28 (mm1 22 28 + 1)) s := fun s hs => by
          have := hAns s hs
          unfold Ans at this ⊢
          simpa [up3_kn, up2_ne] using this
        obtain ⟨x, hx, hxw⟩ : ∃ x : Int32, (x = 0 ∨ x = 1) ∧ (x = 0 ↔ y3 < mm1 22 26) := by
          by_cases z : y3 < mm1 22 26
          · exact ⟨0, Or.inl rfl, fun _ => z, fun _ => rfl⟩
          · exact ⟨1, Or.inr rfl, fun g => absurd g (by decide), fun g => absurd g z⟩
        obtain ⟨v, c3, mm3, v1, v2, v3, v4, v5⟩ := join_loop (r := r1) (x := x) (y1 := y1) (y2 := each) (y3 := y3) hx ns 0 _ _ 0 (by omega) hB2 hA2 (Or.inl rfl) (by simpa [up2] using hxw)
        refine ⟨v, c3, r1, mm3, v2, hr1, fun i => ?_, fun mm K k => ?_, fun C O K k => ?_⟩
        · rw [v3, ← h11 i]; simp [up3]
        · refine hC1 mm K (cFine h5 hns hall (br_t rfl (cActs h5 hns ?_)))
          simp only [hsm]
          refine br_t hb ?_
          intro m6 e6 m7 e7
          subst e6; subst e7
          have u1 : up3 c1 10 0 3 (c1 10 0 3 + each) 10 0 0 = c1 10 0 0 := by simp [up3]
          simp only [u1]
          have u2 : up3 (up3 c1 10 0 3 (c1 10 0 3 + each)) 10 0 0 (c1 10 0 0 + 1) 0 0 7 = mm1 22 26 := by rw [← b7]; simp [up3]
          simp only [u2]
          have kk : (v = 0 → K 0 ((c3, r1), mm)) ∧ (¬ v = 0 → K 1 ((c3, r1), mm)) := by
            rcases v1 with rfl | rfl
            · exact br_t rfl k
            · exact br_f (by decide) k
          rcases hx with rfl | rfl
          · exact br_t (hxw.mp rfl) ⟨ns + 1, v4 mm _ kk⟩
          · exact br_f (fun g => absurd (hxw.mpr g) (by decide)) ⟨ns + 1, v4 mm _ kk⟩
        · refine hM1 C O K (m91_fine h2 hns hq44 (br_t hbm ⟨ns + 1, v5 C O K ?_⟩))
          rcases v1 with rfl | rfl
          · exact nr_f rfl (k.2 (by decide))
          · exact nr_t (by decide) (k.1 rfl)
      · have hbm : ¬ mm1 22 31 + each ≤ mm1 22 27 := by rw [← t3, ← b8]; exact hb
        refine ⟨4, c1, r1, mm1, hB1, hr1, h11, fun mm K k => ?_, fun C O K k => ?_⟩
        · refine hC1 mm K (cFine h5 hns hall (br_t rfl (cActs h5 hns ?_)))
          simp only [hsm]
          exact br_f hb k
        · exact hM1 C O K (m91_fine h2 hns hq44 (br_f hbm (k.2 (by decide))))
  · have hrk : rk (fun i => c1 15 i 2) 4 = 0 := by
      rcases ht with z | z
      · exact absurd z h0
      · exact z
    refine ⟨3, c1, r1, mm1, hB1, fun w hw => ?_, h11, fun mm K k => hC y3 mm K (br_f ?_ k), fun C O K k => hM C _ ?_⟩
    · rcases hI.2.2.1.1 w hw with ⟨g, _, _⟩ | ⟨s, _, _, _, a4, _⟩
      · exact g
      · have := rk_lt (h := fun i => c1 15 i 2) (v := w) (w := 4) (by show ¬ c1 15 w 2 = 0; rw [a4]; decide) hw
        omega
    · show ¬ c1 0 0 6 ≤ 0
      rw [hu]
      exact fun g => by have := (nI_leL (b := 0) (by omega) (by omega)).mp g; omega
    · rw [show dv u = 0 from if_neg h0]
      exact nr_f rfl (k.2 (by decide))
theorem run_loop {n : Nat} (hn : n ≤ 10) (each : Int32) : ∀ (d i : Nat) (c : Nat → Nat → Nat → Int32) (r : Nat → Nat → Option Nat) (mm : MM), i + d = n + 1 → BaseR (c, r) mm ns → (∀ w, w < 4 → r 0 w = none) → each = sm (fun i => c 11 i 4) ns →
    ∃ v c' r' mm', BaseR (c', r') mm' ns ∧ (∀ w, w < 4 → r' 0 w = none) ∧ (∀ mm K, K v ((c', r'), mm) → V_X7_run_25 (d + 1) (nI n) 1 (nI i) ((c, r), mm) K) ∧ (∀ C K, K v (C, mm') → V_X8_run_74 (d + 1) (nI n) each (nI i) (C, mm) K) := by
  intro d
  induction d with
  | zero =>
    intro i c r mm hi hB hr he
    have hl : nI n < nI i := (nI_ltL (by omega) (by omega)).mpr (by omega)
    exact ⟨1, c, r, mm, hB, hr, fun mm K k => br_t hl k, fun C K k => br_t hl k⟩
  | succ d ih =>
    intro i c r mm hi hB hr he
    have hl : ¬ nI n < nI i := fun g => by have := (nI_ltL (by omega) (by omega)).mp g; omega
    obtain ⟨v, c1, r1, mm1, q1, q2, q3, q4, q5⟩ := round_step hB hr (nI n) (nI i) each he
    by_cases hv : v = 1
    · subst hv
      obtain ⟨v', c', r', mm', z1, z2, z3, z4⟩ := ih (i + 1) c1 r1 mm1 (by omega) q1 q2 (by rw [he]; exact sm_congr fun i _ => (q3 i).symm)
      refine ⟨v', c', r', mm', z1, z2, fun mm K k => br_f hl (nr_f rfl (q4 mm _ ?_)), fun C K k => br_f hl (q5 C _ K (br_t rfl ?_))⟩
      · rw [nI_1]; exact z3 mm K k
      · rw [nI_1]; exact z4 C K k
    · refine ⟨v, c1, r1, mm1, q1, q2, fun mm K k => br_f hl (nr_f rfl (q4 mm _ ⟨fun _ => k, fun _ => nr_t hv k⟩)), fun C K k => br_f hl (q5 C _ K (br_f hv k))⟩
end
theorem sim_run (x : Int32) : Sim (V_X7_run x) (V_X8_run x) := by
  rintro ⟨c, r⟩ mm ⟨ns, hB, hr⟩
  have hno : (Ci (V_X7_run x) (c, r) (-2000002) (c, r) ∧ Mi (V_X8_run x) mm (-2000002) mm) → ∃ v c' mm', Ci (V_X7_run x) (c, r) v c' ∧ Mi (V_X8_run x) mm v mm' ∧ RR c' mm' := fun h => ⟨_, _, _, h.1, h.2, ns, hB, hr⟩
  by_cases a1 : x < 1
  · exact hno ⟨fun mm K k => br_t a1 k, fun c K k => br_t a1 k⟩
  by_cases a2 : x ≤ 10
  · obtain ⟨n, hn, rfl⟩ : ∃ n : Nat, n ≤ 10 ∧ x = nI n := by
      rcases ix x 11 (by decide) with h | ⟨j, hj, e⟩
      · exfalso
        have t1 : (1 : Int32).toInt = 1 := by decide
        have t2 : (10 : Int32).toInt = 10 := by decide
        have t3 : (nI 11).toInt = 11 := by decide
        have t0 : (0 : Int32).toInt = 0 := by decide
        rw [i_lt] at a1
        rw [i_le] at a2
        rcases h with h | ⟨_, h⟩
        · have := i_lt.mp h; omega
        · have := i_le.mp h; omega
      · exact ⟨j, by omega, e⟩
    have hns : ns ≤ 10 := hB.2.2.1.1
    have hB1 : BaseR (up3 (up3 (up3 (up3 (up3 (up3 c 10 0 0 0) 10 0 1 (-2000000)) 10 0 2 0) 10 0 3 0) 10 0 4 0) 10 0 5 0, r) (up2 (up2 (up2 (up2 (up2 (up2 mm 22 28 0) 22 29 (-2000000)) 22 30 0) 22 31 0) 22 32 0) 22 33 0) ns := by
      refine BaseR_tally hB (fun k i j hk => by unfold up3; rw [if_neg (by omega), if_neg (by omega), if_neg (by omega), if_neg (by omega), if_neg (by omega), if_neg (by omega)]) (fun k j hk => by unfold up2; rw [if_neg (by omega), if_neg (by omega), if_neg (by omega), if_neg (by omega), if_neg (by omega), if_neg (by omega)]) (fun j hj => ?_)
      rcases (show j = 0 ∨ j = 1 ∨ j = 2 ∨ j = 3 ∨ j = 4 ∨ j = 5 by omega) with rfl | rfl | rfl | rfl | rfl | rfl <;> simp [up3, up2]
    obtain ⟨v, c', r', mm', z1, z2, z3, z4⟩ := run_loop hn (sm (up2 (up2 (up2 (up2 (up2 (up2 mm 22 28 0) 22 29 (-2000000)) 22 30 0) 22 31 0) 22 32 0) 22 33 0 34) ns) n 1 _ r _ (by omega) hB1 hr (sm_congr fun i hi => by
      obtain ⟨na, b1, b2, b3, _⟩ := hB1.2.2.1.2.1 i (by omega)
      exact b3.trans b2.symm)
    refine ⟨v, (c', r'), mm', fun mm K k => br_f a1 (br_t a2 ?_), fun C K k => br_f a1 (br_t a2 ?_), ns, z1, z2⟩
    · intro m1 e1 m2 e2 m3 e3 m4 e4 m5 e5 m6 e6
      subst e1; subst e2; subst e3; subst e4; subst e5; subst e6
      exact ⟨n + 1, z3 mm K k⟩
    · intro m1 e1 m2 e2 m3 e3 m4 e4 m5 e5 m6 e6
      subst e1; subst e2; subst e3; subst e4; subst e5; subst e6
      exact mActs (by have := hB1.2.1; exact this) hns ⟨n + 1, z4 C K k⟩
  · exact hno ⟨fun mm K k => br_f a1 (br_f a2 k), fun c K k => br_f a1 (br_f a2 k)⟩
