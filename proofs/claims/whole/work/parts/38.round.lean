/-! THE ROUND -/
section
variable {ns : Nat} {A : Nat → Int32}
theorem mAll {C : MC} {mm : MM} {K : Int32 → MW → Prop} (h2 : mm 22 2 = nI ns) (hns : ns ≤ 10) (h : ∀ j, j < ns → ¬ mm 46 j = 0) (k : K 1 (C, mm)) : V_X8_areDone (C, mm) K := by
  have key : ∀ d i, i + d = ns → V_X8_areDone_2 (d + 1) (nI i) (C, mm) K := by
    intro d
    induction d with
    | zero =>
      intro i hi
      have : i = ns := by omega
      subst this
      exact br_t (show mm 22 2 ≤ nI i by rw [h2, i_le]; omega) k
    | succ d ih =>
      intro i hi
      have hc : (nI i).toNatClampNeg = i := nI_cl (by omega)
      refine br_f (show ¬ mm 22 2 ≤ nI i by rw [h2]; exact fun g => by have := (nI_leL (by omega) (by omega)).mp g; omega) ⟨vin (by omega) (by decide), nr_t ?_ ?_⟩
      · rw [hc]; exact h i (by omega)
      · rw [nI_1]; exact ih (i + 1) (by omega)
  exact ⟨ns + 1, key ns 0 (by omega)⟩
theorem mSome {C : MC} {mm : MM} {K : Int32 → MW → Prop} (h2 : mm 22 2 = nI ns) (hns : ns ≤ 10) {q : Nat} (hq : q < ns) (h : mm 46 q = 0) (k : K 0 (C, mm)) : V_X8_areDone (C, mm) K := by
  have key : ∀ d i, i + d = q → V_X8_areDone_2 (d + 1) (nI i) (C, mm) K := by
    intro d
    induction d with
    | zero =>
      intro i hi
      have : i = q := by omega
      subst this
      have hc : (nI i).toNatClampNeg = i := nI_cl (by omega)
      refine br_f (show ¬ mm 22 2 ≤ nI i by rw [h2]; exact fun g => by have := (nI_leL (by omega) (by omega)).mp g; omega) ⟨vin (by omega) (by decide), nr_f ?_ k⟩
      rw [hc]; exact h
    | succ d ih =>
      intro i hi
      have hc : (nI i).toNatClampNeg = i := nI_cl (by omega)
      refine br_f (show ¬ mm 22 2 ≤ nI i by rw [h2]; exact fun g => by have := (nI_leL (by omega) (by omega)).mp g; omega) ⟨vin (by omega) (by decide), ⟨fun _ => ?_, fun _ => k⟩⟩
      rw [nI_1]; exact ih (i + 1) (by omega)
  exact ⟨q + 1, key q 0 (by omega)⟩
theorem ct_ex {p : Nat → Bool} : ∀ {n : Nat}, 0 < ct p n → ∃ j, j < n ∧ p j = true
  | 0, h => absurd h (by simp [ct])
  | n + 1, h => by
    by_cases e : p n = true
    · exact ⟨n, by omega, e⟩
    · unfold ct at h
      rw [if_neg e] at h
      obtain ⟨j, a, b⟩ := ct_ex (p := p) (n := n) (by omega)
      exact ⟨j, by omega, b⟩
def dv (u : Nat) : Int32 := if u = 0 then 1 else 0
theorem mAre {c : Nat → Nat → Nat → Int32} {r : Nat → Nat → Option Nat} {mm : MM} {fi u : Nat} {rem : Nat → Nat} (hI : IX c r mm ns fi u rem 4) : Mi V_X8_areDone mm (dv u) mm := by
  intro C K k
  have hns : ns ≤ 10 := hI.1.2.2.1.1
  have h2 : mm 22 2 = nI ns := hI.1.2.1
  have hu := hI.2.2.2.2.2.1
  unfold dv at k
  by_cases h : u = 0
  · rw [if_pos h] at k
    refine mAll h2 hns (fun j hj z => ?_) k
    have := ct_zero (p := fun j => decide (mm 46 j = 0)) (n := ns) (by show cz (mm 46) ns = 0; omega) j hj
    simp [z] at this
  · rw [if_neg h] at k
    obtain ⟨j, a, b⟩ := ct_ex (p := fun j => decide (mm 46 j = 0)) (n := ns) (by show 0 < cz (mm 46) ns; omega)
    exact mSome h2 hns a (by simpa using b) k
theorem u_fun {c : Nat → Nat → Nat → Int32} {r : Nat → Nat → Option Nat} {mm : MM} {fi u fi' u' : Nat} {rem rem' : Nat → Nat} (hI : IX c r mm ns fi u rem 4) (hI' : IX c r mm ns fi' u' rem' 4) : u = u' := by
  rw [hI.2.2.2.2.2.1, hI'.2.2.2.2.2.1]
theorem mLoop : ∀ (N : Nat) (σ τ : MW), Play ns A N σ τ → ∀ fi u rem, IX σ.1.1 σ.1.2 σ.2 ns fi u rem 4 → ∀ (C : MC) (K : Int32 → MW → Prop), (∀ fi u rem, IX τ.1.1 τ.1.2 τ.2 ns fi u rem 4 → K (dv u) (C, τ.2)) → V_X8_round_91 (N + 1) (dv u) (C, σ.2) K := by
  intro N
  induction N with
  | zero =>
    rintro σ τ ⟨rfl, fi', u', rem', hI', ht, _⟩ fi u rem hI C K k
    have e := u_fun hI hI'
    subst e
    have kk := k fi u rem hI
    have hl : Mi V_X8_workersLeft σ.2 (nI (rk (fun i => σ.1.1 15 i 2) 4)) σ.2 := mLeft' (fun w hw => (hI.1.2.2.2.2.1 w hw).2.1)
    by_cases h : u = 0
    · subst h
      exact nr_t (by decide) ⟨Or.inr rfl, kk⟩
    · have h0 : rk (fun i => σ.1.1 15 i 2) 4 = 0 := by rcases ht with z | z; exact absurd z h; exact z
      rw [h0] at hl
      have e : dv u = 0 := if_neg h
      rw [e] at kk ⊢
      exact nr_f rfl (hl C _ (br_t (by decide) ⟨Or.inl rfl, kk⟩))
  | succ N ih =>
    rintro σ τ ⟨⟨fi', u', rem', hI', hu, hn⟩, σ', q1, q2, q3⟩ fi u rem hI C K k
    have e := u_fun hI hI'
    subst e
    have hl : Mi V_X8_workersLeft σ.2 (nI (rk (fun i => σ.1.1 15 i 2) 4)) σ.2 := mLeft' (fun w hw => (hI.1.2.2.2.2.1 w hw).2.1)
    have hn4 := rk_le (fun i => σ.1.1 15 i 2) 4
    have e : dv u = 0 := if_neg (by omega)
    rw [e]
    refine nr_f rfl (hl C _ (br_f (fun g => by have := (nI_leL (b := 0) (by omega) (by omega)).mp g; omega) (q2 C _ ?_)))
    have hX : ∃ fi u rem, IX σ'.1.1 σ'.1.2 σ'.2 ns fi u rem 4 := by
      cases N with
      | zero => obtain ⟨_, a, b, d, e, _⟩ := q3; exact ⟨a, b, d, e⟩
      | succ N => obtain ⟨⟨a, b, d, e, _⟩, _⟩ := q3; exact ⟨a, b, d, e⟩
    obtain ⟨fi2, u2, rem2, hI2⟩ := hX
    exact mAre hI2 C _ (ih σ' τ q3 fi2 u2 rem2 hI2 C K k)
theorem cLoop : ∀ (N : Nat) (σ τ : MW), Play ns A N σ τ → ∀ (t : Nat), t + N < 1000000 → ∀ (y1 : Int32) (mm : MM) (K : Int32 → MW → Prop), V_X7_playRound_39 y1 0 (τ.1, mm) K → V_X7_playRound_6 (N + 1) y1 (nI t) (σ.1, mm) K := by
  intro N
  induction N with
  | zero =>
    rintro σ τ ⟨rfl, fi, u, rem, hI, ht, _⟩ t hN y1 mm K k
    have hN' : ¬ 1000000 ≤ nI t := fun g => by have := (nI_leL (a := 1000000) (by omega) (by omega)).mp g; omega
    refine br_f hN' ?_
    have hu : σ.1.1 0 0 6 = nI u := hI.2.2.2.2.1
    have h6 : σ.1.1 8 0 1 = nI (rk (fun i => σ.1.1 15 i 2) 4) := hI.1.2.2.2.2.2.1
    by_cases h : u = 0
    · refine br_t ?_ k
      show σ.1.1 0 0 6 ≤ 0
      rw [hu, h]; decide
    · have h0 : rk (fun i => σ.1.1 15 i 2) 4 = 0 := by rcases ht with z | z; exact absurd z h; exact z
      refine ⟨fun _ => k, fun _ => br_t ?_ k⟩
      show σ.1.1 8 0 1 ≤ 0
      rw [h6, h0]; decide
  | succ N ih =>
    rintro σ τ ⟨⟨fi, u, rem, hI, hu0, hn⟩, σ', q1, q2, q3⟩ t hN y1 mm K k
    have hN' : ¬ 1000000 ≤ nI t := fun g => by have := (nI_leL (a := 1000000) (by omega) (by omega)).mp g; omega
    have hu : σ.1.1 0 0 6 = nI u := hI.2.2.2.2.1
    have h6 : σ.1.1 8 0 1 = nI (rk (fun i => σ.1.1 15 i 2) 4) := hI.1.2.2.2.2.2.1
    have hn4 := rk_le (fun i => σ.1.1 15 i 2) 4
    have hul : u ≤ ns := by rw [hI.2.2.2.2.2.1]; exact ct_le _ _
    have hns : ns ≤ 10 := hI.1.2.2.1.1
    refine br_f hN' (br_f ?_ (br_f ?_ (q1 mm _ ?_)))
    · show ¬ σ.1.1 0 0 6 ≤ 0
      rw [hu]; exact fun g => by have := (nI_leL (b := 0) (by omega) (by omega)).mp g; omega
    · show ¬ σ.1.1 8 0 1 ≤ 0
      rw [h6]; exact fun g => by have := (nI_leL (b := 0) (by omega) (by omega)).mp g; omega
    · rw [nI_1]
      exact ih σ' τ q3 (t + 1) (by omega) y1 mm K k
-- the beginning of a round
def flr (r : Nat → Nat → Option Nat) (i n : Nat) : Nat → Nat → Option Nat := fun k j => if k = 1 ∧ i ≤ j ∧ j < n then some j else r k j
def fl5 (c : Nat → Nat → Nat → Int32) (i n : Nat) : Nat → Nat → Nat → Int32 := fun k a j => if k = 11 ∧ j = 5 ∧ i ≤ a ∧ a < n then -2000000 else c k a j
def flm (mm : MM) (i n : Nat) : MM := fun k j => if k = 47 ∧ 200 + i ≤ j ∧ j < 200 + n then nI (j - 200) else if k = 22 ∧ j = 19 then nI (200 + n) else if k = 46 ∧ i ≤ j ∧ j < n then 0 else if k = 45 ∧ i ≤ j ∧ j < n then -2000000 else mm k j
theorem cFill {c : Nat → Nat → Nat → Int32} {x : Int32} {mm : MM} {K : MW → Prop} (h : c 6 0 2 = nI ns) (hns : ns ≤ 10) : ∀ (d i : Nat) (r : Nat → Nat → Option Nat), i + d = ns → K ((c, flr r i ns), mm) → V_X3_fill_22 (d + 1) x (nI i) ((c, r), mm) K := by
  intro d
  induction d with
  | zero =>
    intro i r hi k
    have : i = ns := by omega
    subst this
    have e : flr r i i = r := by funext k j; unfold flr; rw [if_neg (by omega)]
    rw [e] at k
    exact br_t (show c 6 0 2 ≤ nI i by rw [h, i_le]; omega) k
  | succ d ih =>
    intro i r hi k
    have hc : (nI i).toNatClampNeg = i := nI_cl (by omega)
    refine br_f (show ¬ c 6 0 2 ≤ nI i by rw [h]; exact fun g => by have := (nI_leL (by omega) (by omega)).mp g; omega) ⟨vin (by omega) (by decide), vin (by omega) (by decide), fun m e => ?_⟩
    rw [hc] at e
    subst e
    rw [nI_1]
    refine ih (i + 1) _ (by omega) ?_
    have e : flr (upr r 1 i (some i)) (i + 1) ns = flr r i ns := by
      funext k j
      unfold flr upr
      by_cases h1 : k = 1 ∧ i + 1 ≤ j ∧ j < ns
      · rw [if_pos h1, if_pos (by omega)]
      · rw [if_neg h1]
        by_cases h2 : k = 1 ∧ j = i
        · rw [if_pos h2, if_pos (by omega), h2.2]
        · rw [if_neg h2, if_neg (by omega)]
    rw [e]
    exact k
theorem cFive {r : Nat → Nat → Option Nat} {mm : MM} {K : MW → Prop} (hns : ns ≤ 10) : ∀ (d i : Nat) (c : Nat → Nat → Nat → Int32), c 0 0 5 = nI ns → i + d = ns → K ((up3 (fl5 c i ns) 0 0 6 (nI ns), r), mm) → V_X7_beginRound_17 (d + 1) (nI i) ((c, r), mm) K := by
  intro d
  induction d with
  | zero =>
    intro i c h hi k
    have : i = ns := by omega
    subst this
    have e : fl5 c i i = c := by funext k a j; unfold fl5; rw [if_neg (by omega)]
    rw [e] at k
    refine br_t (show c 0 0 5 ≤ nI i by rw [h, i_le]; omega) ?_
    intro m e
    subst e
    show K ((up3 c 0 0 6 (c 0 0 5), r), mm)
    rw [h]; exact k
  | succ d ih =>
    intro i c h hi k
    have hc : (nI i).toNatClampNeg = i := nI_cl (by omega)
    refine br_f (show ¬ c 0 0 5 ≤ nI i by rw [h]; exact fun g => by have := (nI_leL (by omega) (by omega)).mp g; omega) ⟨vin (by omega) (by decide), fun m e => ?_⟩
    rw [hc] at e
    subst e
    rw [nI_1]
    refine ih (i + 1) _ (by simpa [up3] using h) (by omega) ?_
    have e : fl5 (up3 c 11 i 5 (-2000000)) (i + 1) ns = fl5 c i ns := by
      funext k a j
      unfold fl5 up3
      by_cases h1 : k = 11 ∧ j = 5 ∧ i + 1 ≤ a ∧ a < ns
      · rw [if_pos h1, if_pos (by omega)]
      · rw [if_neg h1]
        by_cases h2 : k = 11 ∧ a = i ∧ j = 5
        · rw [if_pos h2, if_pos (by omega)]
        · rw [if_neg h2, if_neg (by omega)]
    rw [e]
    exact k
theorem mFill {C : MC} {K : Int32 → MW → Prop} (hns : ns ≤ 10) : ∀ (d i : Nat) (mm : MM), mm 22 2 = nI ns → mm 22 19 = nI (200 + i) → i + d = ns → (∃ k, V_X8_round_67 k 0 (C, flm mm i ns) K) → V_X8_round_16 (d + 1) (nI i) (C, mm) K := by
  intro d
  induction d with
  | zero =>
    intro i mm h h' hi k
    have : i = ns := by omega
    subst this
    have e : flm mm i i = mm := by
      funext k j
      unfold flm
      rw [if_neg (by omega)]
      by_cases z : k = 22 ∧ j = 19
      · rw [if_pos z, z.1, z.2, h']
      · rw [if_neg z, if_neg (by omega), if_neg (by omega)]
    rw [e] at k
    exact br_t (show mm 22 2 ≤ nI i by rw [h, i_le]; omega) k
  | succ d ih =>
    intro i mm h h' hi k
    have hc : (nI i).toNatClampNeg = i := nI_cl (by omega)
    have hc2 : (nI (200 + i)).toNatClampNeg = 200 + i := nI_cl (by omega)
    have u1 : up2 mm 47 (200 + i) (nI i) 22 19 + 1 = nI (200 + (i + 1)) := by
      have : up2 mm 47 (200 + i) (nI i) 22 19 = mm 22 19 := by simp [up2]
      rw [this, h', nI_1]; rfl
    refine br_f (show ¬ mm 22 2 ≤ nI i by rw [h]; exact fun g => by have := (nI_leL (by omega) (by omega)).mp g; omega) ?_
    simp only [h', hc2, hc, forall_eq, u1, nI_1]
    refine ⟨vin (by omega) (by decide), vin (by omega) (by decide), vin (by omega) (by decide), ?_⟩
    refine ih (i + 1) _ (by simpa [up2] using h) (by simp [up2]) (by omega) ?_
    have e : flm (up2 (up2 (up2 (up2 mm 47 (200 + i) (nI i)) 22 19 (nI (200 + (i + 1)))) 46 i 0) 45 i (-2000000)) (i + 1) ns = flm mm i ns := by
      funext k j
      unfold flm up2
      by_cases h1 : k = 47 ∧ 200 + (i + 1) ≤ j ∧ j < 200 + ns
      · rw [if_pos h1, if_pos (by omega)]
      · rw [if_neg h1]
        by_cases h2 : k = 22 ∧ j = 19
        · rw [if_pos h2, if_neg (by omega), if_pos h2]
        · rw [if_neg h2]
          by_cases h3 : k = 46 ∧ i + 1 ≤ j ∧ j < ns
          · rw [if_pos h3, if_neg (by omega), if_neg h2, if_pos (by omega)]
          · rw [if_neg h3]
            by_cases h4 : k = 45 ∧ i + 1 ≤ j ∧ j < ns
            · rw [if_pos h4, if_neg (by omega), if_neg h2, if_neg (by omega), if_pos (by omega)]
            · rw [if_neg h4]
              by_cases h5 : k = 45 ∧ j = i
              · rw [if_pos h5, if_neg (by omega), if_neg h2, if_neg (by omega), if_pos (by omega)]
              · rw [if_neg h5]
                by_cases h6 : k = 46 ∧ j = i
                · rw [if_pos h6, if_neg (by omega), if_neg h2, if_pos (by omega)]
                · rw [if_neg h6, if_neg h2]
                  by_cases h7 : k = 47 ∧ j = 200 + i
                  · rw [if_pos h7, if_pos (by omega), h7.2, Nat.add_sub_cancel_left]
                  · rw [if_neg h7, if_neg (by omega), if_neg (by omega), if_neg (by omega), if_neg (by omega)]
    rw [e]
    exact k
end
section
variable {ns : Nat} {A : Nat → Int32}
theorem Play_end : ∀ (N : Nat) (σ τ : MW), Play ns A N σ τ → ∃ fi u rem, IX τ.1.1 τ.1.2 τ.2 ns fi u rem 4 ∧ (u = 0 ∨ rk (fun i => τ.1.1 15 i 2) 4 = 0) ∧ ∀ i, τ.1.1 11 i 4 = A i := by
  intro N
  induction N with
  | zero => rintro σ τ ⟨rfl, h⟩; exact h
  | succ N ih => rintro σ τ ⟨_, σ', _, _, h⟩; exact ih σ' τ h
def c0R (c : Nat → Nat → Nat → Int32) (ns : Nat) : Nat → Nat → Nat → Int32 := up3 (fl5 (up3 (up3 c 6 0 1 0) 6 0 2 (nI ns)) 0 ns) 0 0 6 (nI ns)
def m0R (mm : MM) (ns : Nat) : MM := up2 (up2 (up2 (up2 (flm (up2 (up2 mm 22 18 200) 22 19 200) 0 ns) 52 0 (-2000000)) 52 1 (-2000000)) 52 2 (-2000000)) 52 3 (-2000000)
theorem c0R_fr {c : Nat → Nat → Nat → Int32} {k i j : Nat} (h : ¬ (k = 6 ∧ i = 0 ∧ (j = 1 ∨ j = 2))) (h1 : ¬ (k = 11 ∧ j = 5 ∧ i < ns)) (h2 : ¬ (k = 0 ∧ i = 0 ∧ j = 6)) : c0R c ns k i j = c k i j := by
  dsimp only [c0R, fl5, up3]
  rw [if_neg (by omega), if_neg (by omega), if_neg (by omega), if_neg (by omega)]
theorem m0R_fr {mm : MM} {k j : Nat} (h : ¬ (k = 22 ∧ (j = 18 ∨ j = 19))) (h1 : ¬ (k = 47 ∧ 200 ≤ j ∧ j < 200 + ns)) (h2 : ¬ ((k = 46 ∨ k = 45) ∧ j < ns)) (h3 : ¬ (k = 52 ∧ j < 4)) : m0R mm ns k j = mm k j := by
  dsimp only [m0R, flm, up2]
  rw [if_neg (by omega), if_neg (by omega), if_neg (by omega), if_neg (by omega), if_neg (by omega), if_neg (by omega), if_neg (by omega), if_neg (by omega), if_neg (by omega), if_neg (by omega)]
theorem IX_first {c : Nat → Nat → Nat → Int32} {r : Nat → Nat → Option Nat} {mm : MM} (hB : BaseR (c, r) mm ns) (hr : ∀ w, w < 4 → r 0 w = none) : IX (c0R c ns) (flr r 0 ns) (m0R mm ns) ns 0 ns (fun _ => 0) 4 := by
  have hns : ns ≤ 10 := hB.2.2.1.1
  have hW := hB.2.2.2.2.1
  have h6 := hB.2.2.2.2.2.1
  have e2 : (fun i => c0R c ns 15 i 2) = fun i => c 15 i 2 := funext fun i => c0R_fr (by omega) (by omega) (by omega)
  have e3 : (fun i => c0R c ns 15 i 3) = fun i => c 15 i 3 := funext fun i => c0R_fr (by omega) (by omega) (by omega)
  have em : ∀ k, k ≠ 22 → k ≠ 47 → k ≠ 46 → k ≠ 45 → k ≠ 52 → m0R mm ns k = mm k := fun k _ _ _ _ _ => funext fun j => m0R_fr (by omega) (by omega) (by omega) (by omega)
  have r0 : ∀ w, w < 4 → flr r 0 ns 0 w = none := fun w hw => by
    unfold flr
    rw [if_neg (by omega)]
    exact hr w hw
  have r1 : ∀ j, j < ns → flr r 0 ns 1 j = some j := fun j hj => by
    unfold flr
    rw [if_pos (by omega)]
  have z46 : ∀ j, j < ns → m0R mm ns 46 j = 0 := fun j hj => by
    dsimp only [m0R, flm, up2]
    rw [if_neg (by omega), if_neg (by omega), if_neg (by omega), if_neg (by omega), if_neg (by omega), if_neg (by omega), if_pos (by omega)]
  have z45 : ∀ j, j < ns → m0R mm ns 45 j = -2000000 := fun j hj => by
    dsimp only [m0R, flm, up2]
    rw [if_neg (by omega), if_neg (by omega), if_neg (by omega), if_neg (by omega), if_neg (by omega), if_neg (by omega), if_neg (by omega), if_pos (by omega)]
  have z47 : ∀ j, j < ns → m0R mm ns 47 (200 + j) = nI j := fun j hj => by
    dsimp only [m0R, flm, up2]
    rw [if_neg (by omega), if_neg (by omega), if_neg (by omega), if_neg (by omega), if_pos (by omega), Nat.add_sub_cancel_left]
  refine ⟨?_, ⟨by omega, ?_, ?_, ?_, ?_, fun j h1 h2 => ⟨j, h2, r1 j h2, z47 j h2, z46 j h2, fun w hw z => ?_⟩, fun j j' h1 h2 h3 z => ?_⟩, ⟨fun v hv => Or.inl ⟨r0 v hv, ?_, rfl⟩, fun v v' s hv hv' g1 g2 => ?_⟩, fun v hv => Or.inl (z46 v hv), ?_, ?_, ?_⟩
  · refine BaseR_mk hB (fun k i j hk => c0R_fr (by omega) (by omega) (by omega)) (fun k j hk => m0R_fr (by omega) (by omega) (by omega) (by omega)) ?_ ?_ ?_ ?_ ?_ (fun j hj => ?_) (fun i hi => ?_)
    · rw [e2, e3, em 50 (by omega) (by omega) (by omega) (by omega) (by omega), em 51 (by omega) (by omega) (by omega) (by omega) (by omega)]; exact hW
    · rw [c0R_fr (k := 8) (by omega) (by omega) (by omega), e2]; exact h6
    · rw [c0R_fr (k := 8) (by omega) (by omega) (by omega), m0R_fr (by omega) (by omega) (by omega) (by omega)]; exact hB.2.2.2.2.2.2.1
    · rw [c0R_fr (k := 8) (by omega) (by omega) (by omega), m0R_fr (by omega) (by omega) (by omega) (by omega)]; exact hB.2.2.2.2.2.2.2.1
    · rw [c0R_fr (k := 8) (by omega) (by omega) (by omega), m0R_fr (by omega) (by omega) (by omega) (by omega)]; exact hB.2.2.2.2.2.2.2.2.1
    · rw [c0R_fr (k := 10) (by omega) (by omega) (by omega), m0R_fr (by omega) (by omega) (by omega) (by omega)]; exact Base_t hB j hj
    · by_cases hi' : i < ns
      · rw [z45 i hi']
        dsimp only [c0R, fl5, up3]
        rw [if_neg (by omega), if_pos (by omega)]
      · rw [c0R_fr (k := 11) (by omega) (by omega) (by omega), m0R_fr (by omega) (by omega) (by omega) (by omega)]; exact hB.2.2.2.2.2.2.2.2.2.2.2.2.2.2.2.2.2 i hi
  · dsimp only [c0R, fl5, up3]
    rw [if_neg (by omega), if_neg (by omega), if_neg (by omega), if_pos (by omega)]; rfl
  · dsimp only [c0R, fl5, up3]
    rw [if_neg (by omega), if_neg (by omega), if_pos (by omega)]
  · dsimp only [m0R, flm, up2]
    rw [if_neg (by omega), if_neg (by omega), if_neg (by omega), if_neg (by omega), if_neg (by omega), if_neg (by omega), if_neg (by omega), if_neg (by omega), if_neg (by omega), if_pos (by omega)]; rfl
  · dsimp only [m0R, flm, up2]
    rw [if_neg (by omega), if_neg (by omega), if_neg (by omega), if_neg (by omega), if_neg (by omega), if_pos (by omega)]
  · rw [r0 w hw] at z; cases z
  · rw [r1 j (by omega), r1 j' h3] at z
    have := Option.some.inj z
    omega
  · rcases (show v = 0 ∨ v = 1 ∨ v = 2 ∨ v = 3 by omega) with rfl | rfl | rfl | rfl <;> simp [m0R, up2]
  · rw [r0 v hv] at g1; cases g1
  · exact up3_self
  · have : ∀ n, n ≤ ns → cz (m0R mm ns 46) n = n := by
      intro n
      induction n with
      | zero => intro _; rfl
      | succ n ih =>
        intro hn
        show cz (m0R mm ns 46) n + (if decide (m0R mm ns 46 n = 0) = true then 1 else 0) = n + 1
        rw [ih (by omega), z46 n (by omega)]
        rfl
    exact (this ns (Nat.le_refl _)).symm
  · have : hn (flr r 0 ns) = 0 := ct_pos fun v hv => by rw [r0 v hv]; rfl
    omega
theorem round_sim {c : Nat → Nat → Nat → Int32} {r : Nat → Nat → Option Nat} {mm : MM} (hB : BaseR (c, r) mm ns) (hr : ∀ w, w < 4 → r 0 w = none) :
    ∃ c' r' mm' fi u rem, IX c' r' mm' ns fi u rem 4 ∧ (u = 0 ∨ rk (fun i => c' 15 i 2) 4 = 0) ∧ (∀ i, c' 11 i 4 = c 11 i 4) ∧ (∀ y1 mm K, V_X7_playRound_39 y1 0 ((c', r'), mm) K → V_X7_playRound y1 ((c, r), mm) K) ∧ Mi V_X8_round mm (dv u) mm' := by
  have hns : ns ≤ 10 := hB.2.2.1.1
  have X := IX_first hB hr
  have h5 : c 0 0 5 = nI ns := hB.1
  have h2 : mm 22 2 = nI ns := hB.2.1
  obtain ⟨N, hN, τ, hP⟩ := ends (A := fun i => c0R c ns 11 i 4) _ (rk_le _ 4) _ _ _ _ _ _ X rfl (fun _ => rfl)
  have hN2 := TB_le _ (rk_le (fun i => c0R c ns 15 i 2) 4)
  obtain ⟨fi, u, rem, hI, ht, hA⟩ := Play_end N _ τ hP
  refine ⟨τ.1.1, τ.1.2, τ.2, fi, u, rem, hI, ht, fun i => (hA i).trans (c0R_fr (by omega) (by omega) (by omega)), fun y1 mm K k => ?_, fun C K k => ?_⟩
  · have step := cLoop N _ τ hP 0 (by omega) y1 mm K k
    intro m1 e1 m2 e2
    have u1 : (if (if (10 : Int32) < 10 then (10 : Int32) else 10) < c 0 0 5 then (if (10 : Int32) < 10 then (10 : Int32) else 10) else c 0 0 5) = nI ns := by
      rw [h5]
      have : ¬ (if (10 : Int32) < 10 then (10 : Int32) else 10) < nI ns := by
        rw [show (if (10 : Int32) < 10 then (10 : Int32) else 10) = nI 10 by decide]
        exact fun g => by have := (nI_ltL (by omega) (by omega)).mp g; omega
      rw [if_neg this]
    subst e1
    have e2' : m2 = ((up3 (up3 c 6 0 1 0) 6 0 2 (nI ns), r), mm) := by rw [e2]; exact congrArg (fun z => ((up3 (up3 c 6 0 1 0) 6 0 2 z, r), mm)) u1
    subst e2'
    refine ⟨ns + 1, cFill (x := c 0 0 5) (by simp [up3]) hns ns 0 r (by omega) ?_⟩
    refine ⟨ns + 1, cFive hns ns 0 _ (by simpa [up3] using h5) (by omega) ?_⟩
    exact ⟨N + 1, step⟩
  · intro m1 e1 m2 e2
    subst e1; subst e2
    refine ⟨ns + 1, mFill hns ns 0 _ (by simpa [up2] using h2) (by simp [up2]; rfl) (by omega) ⟨5, ?_⟩⟩
    refine br_f (by decide) ⟨vin (j := 0) (by decide) (by decide), fun m4 e4 => br_f (by decide) ⟨vin (j := 1) (by decide) (by decide), fun m5 e5 => br_f (by decide) ⟨vin (j := 2) (by decide) (by decide), fun m6 e6 => br_f (by decide) ⟨vin (j := 3) (by decide) (by decide), fun m7 e7 => br_t (by decide) ?_⟩⟩⟩⟩
    subst e4; subst e5; subst e6; subst e7
    refine mAre X C _ ⟨N + 1, ?_⟩
    exact mLoop N _ τ hP _ _ _ X C K (fun fi' u' rem' hI' => by rw [← u_fun hI hI']; exact k)
end
