/-! ONE TURN on both sides -/
def ct (p : Nat → Bool) : Nat → Nat
  | 0 => 0
  | n + 1 => ct p n + (if p n = true then 1 else 0)
theorem ct_le (p : Nat → Bool) : ∀ n, ct p n ≤ n
  | 0 => Nat.le_refl _
  | n + 1 => by have := ct_le p n; unfold ct; split <;> omega
theorem ct_congr {p p' : Nat → Bool} : ∀ {n : Nat}, (∀ j, j < n → p' j = p j) → ct p' n = ct p n
  | 0, _ => rfl
  | n + 1, h => by unfold ct; rw [ct_congr (fun j hj => h j (by omega)), h n (by omega)]
theorem ct_flip {p p' : Nat → Bool} {i : Nat} (h1 : p i = true) (h2 : p' i = false) (h : ∀ j, j ≠ i → p' j = p j) : ∀ {n : Nat}, i < n → ct p' n + 1 = ct p n
  | 0, hn => absurd hn (by omega)
  | n + 1, hn => by
    unfold ct
    by_cases e : i = n
    · subst e
      rw [ct_congr (p := p) (p' := p') (fun j hj => h j (by omega)), h1, h2]
      simp
    · rw [h n (by omega)]
      have := ct_flip h1 h2 h (n := n) (by omega)
      omega
theorem ct_zero {p : Nat → Bool} : ∀ {n : Nat}, ct p n = 0 → ∀ j, j < n → p j = false
  | 0, _, j, hj => absurd hj (by omega)
  | n + 1, h, j, hj => by
    unfold ct at h
    by_cases e : j = n
    · subst e
      cases hp : p j
      · rfl
      · rw [hp] at h; simp at h
    · exact ct_zero (n := n) (by omega) j (by omega)
theorem ct_pos {p : Nat → Bool} : ∀ {n : Nat}, (∀ j, j < n → p j = false) → ct p n = 0
  | 0, _ => rfl
  | n + 1, h => by unfold ct; rw [ct_pos (fun j hj => h j (by omega)), h n (by omega)]; rfl
-- the worker whose turn it is
theorem rk_ex {h : Nat → Int32} {p : Nat} : ∀ {n : Nat}, p < rk h n → ∃ w, w < n ∧ ¬ h w = 0 ∧ rk h w = p
  | 0, hp => absurd hp (by simp [rk])
  | n + 1, hp => by
    by_cases e : p < rk h n
    · obtain ⟨w, a, b, d⟩ := rk_ex e
      exact ⟨w, by omega, b, d⟩
    · unfold rk b2n at hp
      by_cases z : h n = 0
      · rw [if_pos z] at hp; omega
      · rw [if_neg z] at hp
        exact ⟨n, by omega, z, by omega⟩
theorem rk_lt {h : Nat → Int32} {v : Nat} (hv : ¬ h v = 0) : ∀ {w : Nat}, v < w → rk h v < rk h w
  | 0, hw => absurd hw (by omega)
  | w + 1, hw => by
    by_cases e : v = w
    · subst e
      show _ < rk h v + b2n (h v)
      unfold b2n
      rw [if_neg hv]
      omega
    · have := rk_lt hv (w := w) (by omega)
      show _ < rk h w + b2n (h w)
      omega
theorem rk_inj {h : Nat → Int32} {v w : Nat} (hv : ¬ h v = 0) (hw : ¬ h w = 0) (e : rk h v = rk h w) : v = w := by
  rcases Nat.lt_trichotomy v w with g | g | g
  · have := rk_lt hv g; omega
  · exact g
  · have := rk_lt hw g; omega
theorem cAt {c : Nat → Nat → Nat → Int32} {r : Nat → Nat → Option Nat} {mm : MM} {w p : Nat} (hw : w < 4) (hh : ¬ c 15 w 2 = 0) (hp : rk (fun i => c 15 i 2) w = p) {K : Option Nat → MW → Prop} (k : K (some w) ((c, r), mm)) : V_X1_leftAt (nI p) ((c, r), mm) K := by
  have key : ∀ d i, i + d = w → ∀ e, V_X1_leftAt_4 (d + 1 + e) (nI p) (nI (rk (fun i => c 15 i 2) i)) (nI i) ((c, r), mm) K := by
    intro d
    induction d with
    | zero =>
      intro i hi e
      have : i = w := by omega
      subst this
      have hc : (nI i).toNatClampNeg = i := nI_cl (by omega)
      rw [show 0 + 1 + e = e + 1 by omega]
      refine br_f (nI_lt4 hw) ⟨vin hw (by decide), br_f ?_ (nr_f (by rw [hp]) ⟨vin hw (by decide), ?_⟩)⟩
      · rw [hc]; exact hh
      · rw [hc]; exact k
    | succ d ih =>
      intro i hi e
      have hi4 : i < 4 := by omega
      have hc : (nI i).toNatClampNeg = i := nI_cl (by omega)
      rw [show d + 1 + 1 + e = (d + 1 + e) + 1 by omega]
      refine br_f (nI_lt4 hi4) ⟨vin hi4 (by decide), ?_⟩
      have ih := ih (i + 1) (by omega) e
      have hl := rk_le (fun i => c 15 i 2) i
      rw [hc, nI_1, nI_1]
      by_cases z : c 15 i 2 = 0
      · have : rk (fun i => c 15 i 2) (i + 1) = rk (fun i => c 15 i 2) i := by simp [rk, b2n, z]
        rw [this] at ih
        exact br_t z ih
      · have q : rk (fun i => c 15 i 2) (i + 1) = rk (fun i => c 15 i 2) i + 1 := by simp [rk, b2n, z]
        have q2 := rk_lt (h := fun i => c 15 i 2) (v := i) (w := w) z (by omega)
        have q3 := rk_le (fun i => c 15 i 2) w
        rw [q] at ih
        refine br_f z (nr_t (fun g => ?_) ih)
        have := (nI_eqL (by omega) (by omega)).mp g
        omega
  exact ⟨w + 1 + 0, key w 0 (by omega) 0⟩
theorem mAt {C : MC} {mm : MM} {w p : Nat} (hw : w < 4) (hh : ¬ mm 50 w = 0) (hp : rk (mm 50) w = p) {K : Int32 → MW → Prop} (k : K (nI w) (C, mm)) : V_X8_workerAt (nI p) (C, mm) K := by
  have key : ∀ d i, i + d = w → ∀ e, V_X8_workerAt_4 (d + 1 + e) (nI p) (nI (p - rk (mm 50) i)) (nI i) (C, mm) K := by
    intro d
    induction d with
    | zero =>
      intro i hi e
      have : i = w := by omega
      subst this
      have hc : (nI i).toNatClampNeg = i := nI_cl (by omega)
      rw [show 0 + 1 + e = e + 1 by omega]
      refine br_f (nI_lt4 hw) ⟨vin hw (by decide), br_f ?_ (nr_f (by rw [hp, Nat.sub_self]; rfl) k)⟩
      rw [hc]; exact hh
    | succ d ih =>
      intro i hi e
      have hi4 : i < 4 := by omega
      have hc : (nI i).toNatClampNeg = i := nI_cl (by omega)
      rw [show d + 1 + 1 + e = (d + 1 + e) + 1 by omega]
      refine br_f (nI_lt4 hi4) ⟨vin hi4 (by decide), ?_⟩
      have ih := ih (i + 1) (by omega) e
      have hl := rk_le (mm 50) i
      rw [hc, nI_1]
      by_cases z : mm 50 i = 0
      · have : rk (mm 50) (i + 1) = rk (mm 50) i := by simp [rk, b2n, z]
        rw [this] at ih
        exact br_t z ih
      · have q : rk (mm 50) (i + 1) = rk (mm 50) i + 1 := by simp [rk, b2n, z]
        have q2 := rk_lt (h := mm 50) (v := i) (w := w) z (by omega)
        have q3 := rk_le (mm 50) w
        rw [q] at ih
        have q4 : nI (p - rk (mm 50) i) + -1 = nI (p - (rk (mm 50) i + 1)) := by
          have e1 : p - rk (mm 50) i = (p - (rk (mm 50) i + 1)) + 1 := by omega
          rw [e1, ← nI_pred (p - (rk (mm 50) i + 1)), Int32.sub_eq_add_neg]
          
        rw [q4]
        refine br_f z (nr_t (fun g => ?_) ih)
        have := (nI_eqL (b := 0) (by omega) (by omega)).mp g
        omega
  have := key w 0 (by omega) 0
  rw [show p - rk (mm 50) 0 = p from rfl] at this
  exact ⟨w + 1 + 0, this⟩
theorem BaseR_mk {c c' : Nat → Nat → Nat → Int32} {r r' : Nat → Nat → Option Nat} {mm mm' : MM} {ns : Nat} (hB : BaseR (c, r) mm ns)
    (fc : ∀ k i j, (k = 0 ∧ (j = 5 ∨ j = 7 ∨ j = 8)) ∨ (2 ≤ k ∧ k ≤ 4) ∨ (k = 11 ∧ (j = 3 ∨ j = 4)) ∨ (12 ≤ k ∧ k ≤ 14) → c' k i j = c k i j)
    (fm : ∀ k j, (k = 22 ∧ (j = 2 ∨ j = 26 ∨ j = 27)) ∨ k = 30 ∨ k = 31 ∨ (33 ≤ k ∧ k ≤ 37) → mm' k j = mm k j)
    (hW : WorkR (fun w => c' 15 w 2) (fun w => c' 15 w 3) (mm' 50) (mm' 51)) (h6 : c' 8 0 1 = nI (rk (fun w => c' 15 w 2) 4)) (h7 : c' 8 0 2 = mm' 22 24) (h8 : c' 8 0 3 = mm' 22 23) (h9 : c' 8 0 4 = mm' 22 25)
    (ht : ∀ j, j < 6 → c' 10 0 j = mm' 22 (28 + j)) (h18 : ∀ i, i < 10 → c' 11 i 5 = mm' 45 i) : BaseR (c', r') mm' ns := by
  obtain ⟨h1, h2, h3, h4, _, _, _, _, _, h10, h11, _, _, _, _, _, _, _⟩ := hB
  have a3 : (fun i => c' 11 i 3) = fun i => c 11 i 3 := funext fun i => fc _ _ _ (by omega)
  have a4 : (fun i => c' 11 i 4) = fun i => c 11 i 4 := funext fun i => fc _ _ _ (by omega)
  have a12 : c' 12 = c 12 := funext fun i => funext fun j => fc _ _ _ (by omega)
  have a13 : c' 13 = c 13 := funext fun i => funext fun j => fc _ _ _ (by omega)
  have a14 : c' 14 = c 14 := funext fun i => funext fun j => fc _ _ _ (by omega)
  have a2 : c' 2 = c 2 := funext fun i => funext fun j => fc _ _ _ (by omega)
  have a33 : c' 3 = c 3 := funext fun i => funext fun j => fc _ _ _ (by omega)
  have a44 : c' 4 = c 4 := funext fun i => funext fun j => fc _ _ _ (by omega)
  have b : ∀ k, k = 30 ∨ k = 31 ∨ (33 ≤ k ∧ k ≤ 37) → mm' k = mm k := fun k hk => funext fun j => fm _ _ (by omega)
  refine ⟨(fc 0 0 5 (by omega)).trans h1, (fm 22 2 (by omega)).trans h2, ?_, ?_, hW, h6, h7, h8, h9, ?_, ?_, ht 0 (by decide), ht 1 (by decide), ht 2 (by decide), ht 3 (by decide), ht 4 (by decide), ht 5 (by decide), h18⟩
  · show ShareR ns (fun i => c' 11 i 3) (fun i => c' 11 i 4) (c' 12) (c' 13) (c' 14) (mm' 33) (mm' 34) (mm' 35) (mm' 36) (mm' 37)
    rw [a3, a4, a12, a13, a14, b 33 (by omega), b 34 (by omega), b 35 (by omega), b 36 (by omega), b 37 (by omega)]
    exact h3
  · show FactR (c' 2 0) (c' 3 0) (c' 4 0) (mm' 30) (mm' 31)
    rw [a2, a33, a44, b 30 (by omega), b 31 (by omega)]
    exact h4
  · show c' 0 0 7 = mm' 22 26
    rw [fc 0 0 7 (by omega), fm 22 26 (by omega)]; exact h10
  · show c' 0 0 8 = mm' 22 27
    rw [fc 0 0 8 (by omega), fm 22 27 (by omega)]; exact h11
theorem Base_t {c : Nat → Nat → Nat → Int32} {r : Nat → Nat → Option Nat} {mm : MM} {ns : Nat} (hB : BaseR (c, r) mm ns) : ∀ j, j < 6 → c 10 0 j = mm 22 (28 + j) := by
  obtain ⟨_, _, _, _, _, _, _, _, _, _, _, a, b, d, e, f, g, _⟩ := hB
  intro j hj
  rcases (show j = 0 ∨ j = 1 ∨ j = 2 ∨ j = 3 ∨ j = 4 ∨ j = 5 by omega) with rfl | rfl | rfl | rfl | rfl | rfl <;> assumption
def cz (f : Nat → Int32) (n : Nat) : Nat := ct (fun j => decide (f j = 0)) n
def hn (r : Nat → Nat → Option Nat) : Nat := ct (fun w => (r 0 w).isSome) 4
def Hold (c : Nat → Nat → Nat → Int32) (mm : MM) (w s q : Nat) : Prop := ∃ k na, k + q = na ∧ 0 < q ∧ na ≤ 8 ∧ c 11 s 4 = nI na ∧ c 15 w 5 = nI k ∧ mm 38 s = nI k ∧ mm 44 s = 0 ∧ RowR c mm w s ∧ ∃ h, StR c mm w s h
def LineR (c : Nat → Nat → Nat → Int32) (r : Nat → Nat → Option Nat) (mm : MM) (ns fi : Nat) : Prop :=
  fi ≤ ns ∧ c 6 0 1 = nI fi ∧ c 6 0 2 = nI ns ∧ mm 22 18 = nI (200 + fi) ∧ mm 22 19 = nI (200 + ns) ∧
  (∀ j, fi ≤ j → j < ns → ∃ s, s < ns ∧ r 1 j = some s ∧ mm 47 (200 + j) = nI s ∧ mm 46 s = 0 ∧ ∀ w, w < 4 → r 0 w ≠ some s) ∧ (∀ j j', fi ≤ j → j < j' → j' < ns → r 1 j ≠ r 1 j')
def HoldsR (c : Nat → Nat → Nat → Int32) (r : Nat → Nat → Option Nat) (mm : MM) (ns : Nat) (rem : Nat → Nat) (ex : Nat) : Prop :=
  (∀ w, w < 4 → (r 0 w = none ∧ mm 52 w = -2000000 ∧ rem w = 0) ∨ ∃ s, s < ns ∧ r 0 w = some s ∧ mm 52 w = nI s ∧ c 15 w 2 = 1 ∧ mm 46 s = 0 ∧ (w ≠ ex → Hold c mm w s (rem w))) ∧
  (∀ w w' s, w < 4 → w' < 4 → r 0 w = some s → r 0 w' = some s → w = w')
def Dn (c : Nat → Nat → Nat → Int32) (mm : MM) (s : Nat) : Prop := ∃ e, e ≤ 5 ∧ c 11 s 6 = nI e ∧ mm 44 s = nI e ∧ (e = 0 → ∃ d, d < 3 ∧ mm 39 s = nI (d + 1) ∧ Rg (mm 40 (3 * s + d)) (mm 41 (3 * s + d)) ∧ c 11 s 7 = mm 40 (3 * s + d) ∧ c 11 s 8 = mm 41 (3 * s + d))
def DoneR (c : Nat → Nat → Nat → Int32) (mm : MM) (ns : Nat) : Prop := ∀ s, s < ns → mm 46 s = 0 ∨ (mm 46 s = 1 ∧ Dn c mm s)
def CntR (c : Nat → Nat → Nat → Int32) (r : Nat → Nat → Option Nat) (mm : MM) (ns fi u : Nat) : Prop := c 0 0 6 = nI u ∧ u = cz (mm 46) ns ∧ u + fi = ns + hn r
def IX (c : Nat → Nat → Nat → Int32) (r : Nat → Nat → Option Nat) (mm : MM) (ns fi u : Nat) (rem : Nat → Nat) (ex : Nat) : Prop :=
  BaseR (c, r) mm ns ∧ LineR c r mm ns fi ∧ HoldsR c r mm ns rem ex ∧ DoneR c mm ns ∧ CntR c r mm ns fi u
section
variable {c c' : Nat → Nat → Nat → Int32} {r r' : Nat → Nat → Option Nat} {mm mm' : MM} {ns fi u w s q : Nat} {rem : Nat → Nat} {ex : Nat}
theorem St_fr {h : Nat} (hS : StR c mm w s h) (e3 : ∀ k j, 16 ≤ k → k ≤ 21 → c' k w j = c k w j) (e6 : mm' 39 s = mm 39 s) (e7 : ∀ k j, 40 ≤ k → k ≤ 43 → j < 3 → mm' k (3 * s + j) = mm k (3 * s + j)) : StR c' mm' w s h := by
  obtain ⟨a, b, d, e⟩ := hS
  refine ⟨a, (e3 16 2 (by decide) (by decide)).trans b, e6.trans d, fun j hj => ?_⟩
  rw [e3 17 j (by decide) (by decide), e3 18 j (by decide) (by decide), e7 40 j (by decide) (by decide) (by omega), e7 41 j (by decide) (by decide) (by omega)]
  exact e j hj
theorem Row_fr (hR : RowR c mm w s) (e3 : ∀ k j, 16 ≤ k → k ≤ 21 → c' k w j = c k w j) (e7 : ∀ k j, 40 ≤ k → k ≤ 43 → j < 3 → mm' k (3 * s + j) = mm k (3 * s + j)) : RowR c' mm' w s := by
  intro j hj
  rw [e3 19 j (by decide) (by decide), e3 20 j (by decide) (by decide), e3 21 j (by decide) (by decide), e7 42 j (by decide) (by decide) hj, e7 43 j (by decide) (by decide) hj]
  exact hR j hj
theorem Hold_fr (h : Hold c mm w s q) (e1 : c' 11 s 4 = c 11 s 4) (e2 : c' 15 w 5 = c 15 w 5) (e3 : ∀ k j, 16 ≤ k → k ≤ 21 → c' k w j = c k w j) (e4 : mm' 38 s = mm 38 s) (e5 : mm' 44 s = mm 44 s) (e6 : mm' 39 s = mm 39 s) (e7 : ∀ k j, 40 ≤ k → k ≤ 43 → j < 3 → mm' k (3 * s + j) = mm k (3 * s + j)) : Hold c' mm' w s q := by
  obtain ⟨k, na, a1, a2, a3, a4, a5, a6, a7, a8, h, a9⟩ := h
  exact ⟨k, na, a1, a2, a3, e1.trans a4, e2.trans a5, e4.trans a6, e5.trans a7, Row_fr a8 e3 e7, h, St_fr a9 e3 e6 e7⟩
theorem Dn_fr (h : Dn c mm s) (e1 : ∀ j, 6 ≤ j → j ≤ 8 → c' 11 s j = c 11 s j) (e5 : mm' 44 s = mm 44 s) (e6 : mm' 39 s = mm 39 s) (e7 : ∀ k j, 40 ≤ k → k ≤ 41 → j < 3 → mm' k (3 * s + j) = mm k (3 * s + j)) : Dn c' mm' s := by
  obtain ⟨e, a1, a2, a3, a4⟩ := h
  refine ⟨e, a1, (e1 6 (by decide) (by decide)).trans a2, e5.trans a3, fun z => ?_⟩
  obtain ⟨d, b1, b2, b3, b4, b5⟩ := a4 z
  refine ⟨d, b1, e6.trans b2, ?_⟩
  rw [e1 7 (by decide) (by decide), e1 8 (by decide) (by decide), e7 40 d (by decide) (by decide) b1, e7 41 d (by decide) (by decide) b1]
  exact ⟨b3, b4, b5⟩
theorem cz_congr {f f' : Nat → Int32} {n : Nat} (h : ∀ j, j < n → f' j = f j) : cz f' n = cz f n := ct_congr fun j hj => by rw [h j hj]
theorem IX_hold (hI : IX c r mm ns fi u rem w) (hw : w < 4) (hr : r 0 w = some s) (hh : Hold c mm w s (rem w)) : IX c r mm ns fi u rem 4 := by
  obtain ⟨hB, hL, ⟨hH, hU⟩, hD, hC⟩ := hI
  refine ⟨hB, hL, ⟨fun v hv => ?_, hU⟩, hD, hC⟩
  rcases hH v hv with h | ⟨s', a1, a2, a3, a4, a5, a6⟩
  · exact Or.inl h
  · refine Or.inr ⟨s', a1, a2, a3, a4, a5, fun _ => ?_⟩
    by_cases e : v = w
    · subst e
      rw [hr] at a2
      have : s = s' := Option.some.inj a2
      subst this
      exact hh
    · exact a6 e
theorem IX_ex (hI : IX c r mm ns fi u rem 4) (hr : r 0 w = some s) (ρ : Nat) : IX c r mm ns fi u (fun v => if v = w then ρ else rem v) w := by
  obtain ⟨hB, hL, ⟨hH, hU⟩, hD, hC⟩ := hI
  refine ⟨hB, hL, ⟨fun v hv => ?_, hU⟩, hD, hC⟩
  rcases hH v hv with ⟨h1, h2, h3⟩ | ⟨s', a1, a2, a3, a4, a5, a6⟩
  · by_cases e : v = w
    · subst e; rw [hr] at h1; cases h1
    · exact Or.inl ⟨h1, h2, by simp only [if_neg e]; exact h3⟩
  · refine Or.inr ⟨s', a1, a2, a3, a4, a5, fun e => ?_⟩
    simp only [if_neg e]
    exact a6 (by omega)
theorem IX_at (hI : IX c r mm ns fi u rem ex) (hw : w < 4) (hr : r 0 w = some s) : s < ns ∧ mm 52 w = nI s ∧ c 15 w 2 = 1 ∧ mm 46 s = 0 ∧ (w ≠ ex → Hold c mm w s (rem w)) := by
  rcases hI.2.2.1.1 w hw with ⟨h1, _, _⟩ | ⟨s', a1, a2, a3, a4, a5, a6⟩
  · rw [hr] at h1; cases h1
  · rw [hr] at a2
    have : s = s' := Option.some.inj a2
    subst this
    exact ⟨a1, a3, a4, a5, a6⟩
theorem IX_ben (hI : IX c r mm ns fi u rem w) (hw4 : w < 4) (hw : r 0 w = some s)
    (fc : ∀ k i j, (k < 15 ∨ 21 < k ∨ i ≠ w ∨ (k = 15 ∧ j ≠ 5)) → c' k i j = c k i j)
    (fm : ∀ k j, (k < 38 ∨ 44 < k ∨ ((k = 38 ∨ k = 39 ∨ k = 44) ∧ j ≠ s) ∨ (40 ≤ k ∧ k ≤ 43 ∧ (j < 3 * s ∨ 3 * s + 3 ≤ j))) → mm' k j = mm k j) : IX c' r mm' ns fi u rem w := by
  obtain ⟨b1, b2, b3, b4, _⟩ := IX_at hI hw4 hw
  obtain ⟨hB, ⟨l1, l2, l3, l4, l5, l6, l7⟩, ⟨hH, hU⟩, hD, ⟨c1, c2, c3⟩⟩ := hI
  have e2 : (fun i => c' 15 i 2) = fun i => c 15 i 2 := funext fun i => fc _ _ _ (by omega)
  have e3 : (fun i => c' 15 i 3) = fun i => c 15 i 3 := funext fun i => fc _ _ _ (by omega)
  have em : ∀ k, k < 38 ∨ 44 < k → mm' k = mm k := fun k hk => funext fun j => fm _ _ (by omega)
  refine ⟨?_, ⟨l1, ?_, ?_, ?_, ?_, fun j h1 h2 => ?_, l7⟩, ⟨fun v hv => ?_, hU⟩, fun v hv => ?_, ?_, ?_, c3⟩
  · have hW := hB.2.2.2.2.1
    have h6 := hB.2.2.2.2.2.1
    refine BaseR_mk hB (fun k i j hk => fc _ _ _ (by omega)) (fun k j hk => fm _ _ (by omega)) ?_ ?_ ?_ ?_ ?_ (fun j hj => ?_) (fun i hi => ?_)
    · rw [e2, e3, em 50 (by omega), em 51 (by omega)]; exact hW
    · rw [fc 8 0 1 (by omega), e2]; exact h6
    · rw [fc 8 0 2 (by omega), em 22 (by omega)]; exact hB.2.2.2.2.2.2.1
    · rw [fc 8 0 3 (by omega), em 22 (by omega)]; exact hB.2.2.2.2.2.2.2.1
    · rw [fc 8 0 4 (by omega), em 22 (by omega)]; exact hB.2.2.2.2.2.2.2.2.1
    · rw [fc 10 0 j (by omega), em 22 (by omega)]; exact Base_t hB j hj
    · rw [fc 11 i 5 (by omega), em 45 (by omega)]; exact hB.2.2.2.2.2.2.2.2.2.2.2.2.2.2.2.2.2 i hi
  · rw [fc 6 0 1 (by omega)]; exact l2
  · rw [fc 6 0 2 (by omega)]; exact l3
  · rw [em 22 (by omega)]; exact l4
  · rw [em 22 (by omega)]; exact l5
  · rw [em 47 (by omega), em 46 (by omega)]; exact l6 j h1 h2
  · rw [em 52 (by omega), em 46 (by omega)]
    rcases hH v hv with h | ⟨s', a1, a2, a3, a4, a5, a6⟩
    · exact Or.inl h
    · refine Or.inr ⟨s', a1, a2, a3, by rw [fc 15 v 2 (by omega)]; exact a4, a5, fun e => ?_⟩
      have hs : s' ≠ s := fun z => e (hU v w s' hv hw4 a2 (z ▸ hw))
      exact Hold_fr (a6 e) (fc _ _ _ (by omega)) (fc _ _ _ (by omega)) (fun k j _ _ => fc _ _ _ (by omega)) (fm _ _ (by omega)) (fm _ _ (by omega)) (fm _ _ (by omega)) (fun k j _ _ _ => fm _ _ (by omega))
  · rw [em 46 (by omega)]
    rcases hD v hv with h | ⟨h1, h2⟩
    · exact Or.inl h
    · have hs : v ≠ s := fun z => by rw [z, b4] at h1; exact absurd h1 (by decide)
      exact Or.inr ⟨h1, Dn_fr h2 (fun j _ _ => fc _ _ _ (by omega)) (fm _ _ (by omega)) (fm _ _ (by omega)) (fun k j _ _ _ => fm _ _ (by omega))⟩
  · rw [fc 0 0 6 (by omega)]; exact c1
  · rw [em 46 (by omega)]; exact c2
theorem hn_some {w : Nat} (hw : w < 4) (h : r 0 w = none) (s : Nat) : hn (upr r 0 w (some s)) = hn r + 1 := by
  unfold hn
  exact (ct_flip (p := fun v => (upr r 0 w (some s) 0 v).isSome) (p' := fun v => (r 0 v).isSome) (i := w) (by simp [upr]) (by simp [h]) (fun j hj => by simp [upr, hj]) hw).symm
theorem hn_none {w s : Nat} (hw : w < 4) (h : r 0 w = some s) : hn (upr r 0 w none) + 1 = hn r := by
  unfold hn
  exact ct_flip (p' := fun v => (upr r 0 w none 0 v).isSome) (p := fun v => (r 0 v).isSome) (i := w) (by simp [h]) (by simp [upr]) (fun j hj => by simp [upr, hj]) hw
theorem IX_fin (hI : IX c r mm ns fi u rem w) (hw4 : w < 4) (hw : r 0 w = some s)
    (fc : ∀ k i j, ¬ (k = 11 ∧ i = s ∧ 5 ≤ j ∧ j ≤ 8) → ¬ (k = 10 ∧ i = 0 ∧ j = 5) → ¬ (k = 0 ∧ i = 0 ∧ j = 6) → c' k i j = c k i j) (d1 : c' 11 s 5 = nI w) (d2 : c' 10 0 5 = c 10 0 5 + 1) (d3 : c' 0 0 6 = c 0 0 6 - 1)
    (fm : ∀ k j, ¬ ((k = 44 ∨ k = 45 ∨ k = 46) ∧ j = s) → ¬ (k = 52 ∧ j = w) → ¬ (k = 22 ∧ j = 33) → mm' k j = mm k j) (m1 : mm' 46 s = 1) (m2 : mm' 45 s = nI w) (m3 : mm' 52 w = -2000000) (m4 : mm' 22 33 = mm 22 33 + 1)
    (hDn : Dn c' mm' s) : ∃ u', u = u' + 1 ∧ IX c' (upr r 0 w none) mm' ns fi u' (fun v => if v = w then 0 else rem v) 4 := by
  obtain ⟨b1, b2, b3, b4, _⟩ := IX_at hI hw4 hw
  obtain ⟨hB, ⟨l1, l2, l3, l4, l5, l6, l7⟩, ⟨hH, hU⟩, hD, ⟨c1, c2, c3⟩⟩ := hI
  have hz : cz (mm' 46) ns + 1 = cz (mm 46) ns := ct_flip (i := s) (by simp [b4]) (by simp [m1]) (fun j hj => by rw [fm 46 j (by omega) (by omega) (by omega)]) b1
  obtain ⟨u', rfl⟩ : ∃ u', u = u' + 1 := ⟨u - 1, by omega⟩
  have hnn := hn_none (s := s) hw4 hw
  have e2 : (fun i => c' 15 i 2) = fun i => c 15 i 2 := funext fun i => fc _ _ _ (by omega) (by omega) (by omega)
  have e3 : (fun i => c' 15 i 3) = fun i => c 15 i 3 := funext fun i => fc _ _ _ (by omega) (by omega) (by omega)
  have em : ∀ k, k ≠ 44 → k ≠ 45 → k ≠ 46 → k ≠ 52 → k ≠ 22 → mm' k = mm k := fun k _ _ _ _ _ => funext fun j => fm _ _ (by omega) (by omega) (by omega)
  refine ⟨u', rfl, ?_, ⟨l1, ?_, ?_, ?_, ?_, fun j h1 h2 => ?_, fun j j' h1 h2 h3 => ?_⟩, ⟨fun v hv => ?_, fun v v' s' hv hv' g1 g2 => ?_⟩, fun v hv => ?_, ?_, by omega, by omega⟩
  · have hW := hB.2.2.2.2.1
    have h6 := hB.2.2.2.2.2.1
    refine BaseR_mk hB (fun k i j hk => fc _ _ _ (by omega) (by omega) (by omega)) (fun k j hk => fm _ _ (by omega) (by omega) (by omega)) ?_ ?_ ?_ ?_ ?_ (fun j hj => ?_) (fun i hi => ?_)
    · rw [e2, e3, em 50 (by omega) (by omega) (by omega) (by omega) (by omega), em 51 (by omega) (by omega) (by omega) (by omega) (by omega)]; exact hW
    · rw [fc 8 0 1 (by omega) (by omega) (by omega), e2]; exact h6
    · rw [fc 8 0 2 (by omega) (by omega) (by omega), fm 22 24 (by omega) (by omega) (by omega)]; exact hB.2.2.2.2.2.2.1
    · rw [fc 8 0 3 (by omega) (by omega) (by omega), fm 22 23 (by omega) (by omega) (by omega)]; exact hB.2.2.2.2.2.2.2.1
    · rw [fc 8 0 4 (by omega) (by omega) (by omega), fm 22 25 (by omega) (by omega) (by omega)]; exact hB.2.2.2.2.2.2.2.2.1
    · by_cases ej : j = 5
      · subst ej
        rw [d2, m4, Base_t hB 5 hj]
      · rw [fc 10 0 j (by omega) (by omega) (by omega), fm 22 (28 + j) (by omega) (by omega) (by omega)]; exact Base_t hB j hj
    · by_cases ei : i = s
      · subst ei
        rw [d1, m2]
      · rw [fc 11 i 5 (by omega) (by omega) (by omega), fm 45 i (by omega) (by omega) (by omega)]; exact hB.2.2.2.2.2.2.2.2.2.2.2.2.2.2.2.2.2 i hi
  · rw [fc 6 0 1 (by omega) (by omega) (by omega)]; exact l2
  · rw [fc 6 0 2 (by omega) (by omega) (by omega)]; exact l3
  · rw [fm 22 18 (by omega) (by omega) (by omega)]; exact l4
  · rw [fm 22 19 (by omega) (by omega) (by omega)]; exact l5
  · obtain ⟨s', a1, a2, a3, a4, a5⟩ := l6 j h1 h2
    have hs : s' ≠ s := fun z => a5 w hw4 (z ▸ hw)
    refine ⟨s', a1, by simpa [upr] using a2, by rw [fm 47 _ (by omega) (by omega) (by omega)]; exact a3, by rw [fm 46 _ (by omega) (by omega) (by omega)]; exact a4, fun v hv => ?_⟩
    by_cases e : v = w
    · subst e; simp [upr]
    · simpa [upr, e] using a5 v hv
  · simpa [upr] using l7 j j' h1 h2 h3
  · by_cases e : v = w
    · subst e
      exact Or.inl ⟨by simp [upr], m3, by simp⟩
    · rcases hH v hv with ⟨h1, h2, h3⟩ | ⟨s', a1, a2, a3, a4, a5, a6⟩
      · exact Or.inl ⟨by simpa [upr, e] using h1, by rw [fm 52 v (by omega) (by omega) (by omega)]; exact h2, by simp only [if_neg e]; exact h3⟩
      · have hs : s' ≠ s := fun z => e (hU v w s' hv hw4 a2 (z ▸ hw))
        refine Or.inr ⟨s', a1, by simpa [upr, e] using a2, by rw [fm 52 v (by omega) (by omega) (by omega)]; exact a3, by rw [fc 15 v 2 (by omega) (by omega) (by omega)]; exact a4, by rw [fm 46 _ (by omega) (by omega) (by omega)]; exact a5, fun _ => ?_⟩
        simp only [if_neg e]
        exact Hold_fr (a6 e) (fc _ _ _ (by omega) (by omega) (by omega)) (fc _ _ _ (by omega) (by omega) (by omega)) (fun k j _ _ => fc _ _ _ (by omega) (by omega) (by omega)) (fm _ _ (by omega) (by omega) (by omega)) (fm _ _ (by omega) (by omega) (by omega)) (fm _ _ (by omega) (by omega) (by omega)) (fun k j _ _ _ => fm _ _ (by omega) (by omega) (by omega))
  · by_cases e : v = w
    · subst e; simp [upr] at g1
    · by_cases e' : v' = w
      · subst e'; simp [upr] at g2
      · exact hU v v' s' hv hv' (by simpa [upr, e] using g1) (by simpa [upr, e'] using g2)
  · by_cases e : v = s
    · subst e; exact Or.inr ⟨m1, hDn⟩
    · rw [fm 46 v (by omega) (by omega) (by omega)]
      rcases hD v hv with h | ⟨h1, h2⟩
      · exact Or.inl h
      · exact Or.inr ⟨h1, Dn_fr h2 (fun j _ _ => fc _ _ _ (by omega) (by omega) (by omega)) (fm _ _ (by omega) (by omega) (by omega)) (fm _ _ (by omega) (by omega) (by omega)) (fun k j _ _ _ => fm _ _ (by omega) (by omega) (by omega))⟩
  · rw [d3, c1, nI_pred]
end
section
variable {c c' : Nat → Nat → Nat → Int32} {r r' : Nat → Nat → Option Nat} {mm mm' : MM} {ns fi u w s q : Nat} {rem : Nat → Nat} {ex : Nat}
theorem IX_head (hI : IX c r mm ns fi u rem ex)
    (fc : ∀ k i j, ¬ (k = 8 ∧ i = 0 ∧ 2 ≤ j ∧ j ≤ 4) → c' k i j = c k i j) (fm : ∀ k j, ¬ (k = 22 ∧ 23 ≤ j ∧ j ≤ 25) → mm' k j = mm k j)
    (d1 : c' 8 0 2 = mm' 22 24) (d2 : c' 8 0 3 = mm' 22 23) (d3 : c' 8 0 4 = mm' 22 25) : IX c' r mm' ns fi u rem ex := by
  obtain ⟨hB, ⟨l1, l2, l3, l4, l5, l6, l7⟩, ⟨hH, hU⟩, hD, ⟨c1, c2, c3⟩⟩ := hI
  have e2 : (fun i => c' 15 i 2) = fun i => c 15 i 2 := funext fun i => fc _ _ _ (by omega)
  have e3 : (fun i => c' 15 i 3) = fun i => c 15 i 3 := funext fun i => fc _ _ _ (by omega)
  have em : ∀ k, k ≠ 22 → mm' k = mm k := fun k hk => funext fun j => fm _ _ (by omega)
  refine ⟨?_, ⟨l1, ?_, ?_, ?_, ?_, fun j h1 h2 => ?_, l7⟩, ⟨fun v hv => ?_, hU⟩, fun v hv => ?_, ?_, ?_, c3⟩
  · have hW := hB.2.2.2.2.1
    have h6 := hB.2.2.2.2.2.1
    refine BaseR_mk hB (fun k i j hk => fc _ _ _ (by omega)) (fun k j hk => fm _ _ (by omega)) ?_ ?_ d1 d2 d3 (fun j hj => ?_) (fun i hi => ?_)
    · rw [e2, e3, em 50 (by omega), em 51 (by omega)]; exact hW
    · rw [fc 8 0 1 (by omega), e2]; exact h6
    · rw [fc 10 0 j (by omega), fm 22 _ (by omega)]; exact Base_t hB j hj
    · rw [fc 11 i 5 (by omega), em 45 (by omega)]; exact hB.2.2.2.2.2.2.2.2.2.2.2.2.2.2.2.2.2 i hi
  · rw [fc 6 0 1 (by omega)]; exact l2
  · rw [fc 6 0 2 (by omega)]; exact l3
  · rw [fm 22 18 (by omega)]; exact l4
  · rw [fm 22 19 (by omega)]; exact l5
  · rw [em 47 (by omega), em 46 (by omega)]; exact l6 j h1 h2
  · rw [em 52 (by omega), em 46 (by omega)]
    rcases hH v hv with h | ⟨s', a1, a2, a3, a4, a5, a6⟩
    · exact Or.inl h
    · exact Or.inr ⟨s', a1, a2, a3, by rw [fc 15 v 2 (by omega)]; exact a4, a5, fun e => Hold_fr (a6 e) (fc _ _ _ (by omega)) (fc _ _ _ (by omega)) (fun k j _ _ => fc _ _ _ (by omega)) (fm _ _ (by omega)) (fm _ _ (by omega)) (fm _ _ (by omega)) (fun k j _ _ _ => fm _ _ (by omega))⟩
  · rw [em 46 (by omega)]
    rcases hD v hv with h | ⟨h1, h2⟩
    · exact Or.inl h
    · exact Or.inr ⟨h1, Dn_fr h2 (fun j _ _ => fc _ _ _ (by omega)) (fm _ _ (by omega)) (fm _ _ (by omega)) (fun k j _ _ _ => fm _ _ (by omega))⟩
  · rw [fc 0 0 6 (by omega)]; exact c1
  · rw [em 46 (by omega)]; exact c2
theorem IX_take (hI : IX c r mm ns fi u rem 4) (hw4 : w < 4) (hr : r 0 w = none) (hh : c 15 w 2 = 1) (hf : fi < ns) (hs : r 1 fi = some s)
    (fc : ∀ k i j, ¬ (k = 6 ∧ i = 0 ∧ j = 1) → ¬ (k = 10 ∧ i = 0 ∧ j = 4) → c' k i j = c k i j) (d1 : c' 6 0 1 = nI (fi + 1)) (d2 : c' 10 0 4 = c 10 0 4 + 1)
    (fm : ∀ k j, ¬ (k = 22 ∧ (j = 18 ∨ j = 32)) → ¬ (k = 52 ∧ j = w) → mm' k j = mm k j) (m1 : mm' 22 18 = nI (200 + (fi + 1))) (m2 : mm' 22 32 = mm 22 32 + 1) (m3 : mm' 52 w = nI s) (ρ : Nat) :
    IX c' (upr r 0 w (some s)) mm' ns (fi + 1) u (fun v => if v = w then ρ else rem v) w := by
  obtain ⟨hB, ⟨l1, l2, l3, l4, l5, l6, l7⟩, ⟨hH, hU⟩, hD, ⟨c1, c2, c3⟩⟩ := hI
  obtain ⟨s0, p1, p2, p3, p4, p5⟩ := l6 fi (Nat.le_refl _) hf
  have : s = s0 := Option.some.inj (hs.symm.trans p2)
  subst this
  have e2 : (fun i => c' 15 i 2) = fun i => c 15 i 2 := funext fun i => fc _ _ _ (by omega) (by omega)
  have e3 : (fun i => c' 15 i 3) = fun i => c 15 i 3 := funext fun i => fc _ _ _ (by omega) (by omega)
  have em : ∀ k, k ≠ 22 → k ≠ 52 → mm' k = mm k := fun k hk hk2 => funext fun j => fm _ _ (by omega) (by omega)
  have hns := hn_some hw4 hr s
  refine ⟨?_, ⟨by omega, d1, ?_, m1, ?_, fun j h1 h2 => ?_, fun j j' h1 h2 h3 => ?_⟩, ⟨fun v hv => ?_, fun v v' s' hv hv' g1 g2 => ?_⟩, fun v hv => ?_, ?_, ?_, by omega⟩
  · have hW := hB.2.2.2.2.1
    have h6 := hB.2.2.2.2.2.1
    refine BaseR_mk hB (fun k i j hk => fc _ _ _ (by omega) (by omega)) (fun k j hk => fm _ _ (by omega) (by omega)) ?_ ?_ ?_ ?_ ?_ (fun j hj => ?_) (fun i hi => ?_)
    · rw [e2, e3, em 50 (by omega) (by omega), em 51 (by omega) (by omega)]; exact hW
    · rw [fc 8 0 1 (by omega) (by omega), e2]; exact h6
    · rw [fc 8 0 2 (by omega) (by omega), fm 22 24 (by omega) (by omega)]; exact hB.2.2.2.2.2.2.1
    · rw [fc 8 0 3 (by omega) (by omega), fm 22 23 (by omega) (by omega)]; exact hB.2.2.2.2.2.2.2.1
    · rw [fc 8 0 4 (by omega) (by omega), fm 22 25 (by omega) (by omega)]; exact hB.2.2.2.2.2.2.2.2.1
    · by_cases ej : j = 4
      · subst ej
        rw [d2, m2, Base_t hB 4 hj]
      · rw [fc 10 0 j (by omega) (by omega), fm 22 (28 + j) (by omega) (by omega)]; exact Base_t hB j hj
    · rw [fc 11 i 5 (by omega) (by omega), em 45 (by omega) (by omega)]; exact hB.2.2.2.2.2.2.2.2.2.2.2.2.2.2.2.2.2 i hi
  · rw [fc 6 0 2 (by omega) (by omega)]; exact l3
  · rw [fm 22 19 (by omega) (by omega)]; exact l5
  · obtain ⟨s', a1, a2, a3, a4, a5⟩ := l6 j (by omega) h2
    have hne : s' ≠ s := fun z => l7 fi j (Nat.le_refl _) (by omega) h2 (by rw [p2, a2, z])
    refine ⟨s', a1, by simpa [upr] using a2, by rw [em 47 (by omega) (by omega)]; exact a3, by rw [em 46 (by omega) (by omega)]; exact a4, fun v hv => ?_⟩
    by_cases e : v = w
    · subst e; simp [upr]; exact fun z => hne z.symm
    · simpa [upr, e] using a5 v hv
  · simpa [upr] using l7 j j' (by omega) h2 h3
  · by_cases e : v = w
    · subst e
      exact Or.inr ⟨s, p1, by simp [upr], m3, by rw [fc 15 v 2 (by omega) (by omega)]; exact hh, by rw [em 46 (by omega) (by omega)]; exact p4, fun z => absurd rfl z⟩
    · rcases hH v hv with ⟨h1, h2, h3⟩ | ⟨s', a1, a2, a3, a4, a5, a6⟩
      · exact Or.inl ⟨by simpa [upr, e] using h1, by rw [fm 52 v (by omega) (by omega)]; exact h2, by simp only [if_neg e]; exact h3⟩
      · refine Or.inr ⟨s', a1, by simpa [upr, e] using a2, by rw [fm 52 v (by omega) (by omega)]; exact a3, by rw [fc 15 v 2 (by omega) (by omega)]; exact a4, by rw [em 46 (by omega) (by omega)]; exact a5, fun _ => ?_⟩
        simp only [if_neg e]
        exact Hold_fr (a6 (by omega)) (fc _ _ _ (by omega) (by omega)) (fc _ _ _ (by omega) (by omega)) (fun k j _ _ => fc _ _ _ (by omega) (by omega)) (fm _ _ (by omega) (by omega)) (fm _ _ (by omega) (by omega)) (fm _ _ (by omega) (by omega)) (fun k j _ _ _ => fm _ _ (by omega) (by omega))
  · by_cases e : v = w
    · by_cases e' : v' = w
      · rw [e, e']
      · subst e
        have g : s = s' := by simpa [upr] using g1
        subst g
        exact absurd (by simpa [upr, e'] using g2) (p5 v' hv')
    · by_cases e' : v' = w
      · subst e'
        have g : s = s' := by simpa [upr] using g2
        subst g
        exact absurd (by simpa [upr, e] using g1) (p5 v hv)
      · exact hU v v' s' hv hv' (by simpa [upr, e] using g1) (by simpa [upr, e'] using g2)
  · rw [em 46 (by omega) (by omega)]
    rcases hD v hv with h | ⟨h1, h2⟩
    · exact Or.inl h
    · exact Or.inr ⟨h1, Dn_fr h2 (fun j _ _ => fc _ _ _ (by omega) (by omega)) (fm _ _ (by omega) (by omega)) (fm _ _ (by omega) (by omega)) (fun k j _ _ _ => fm _ _ (by omega) (by omega))⟩
  · rw [fc 0 0 6 (by omega) (by omega)]; exact c1
  · rw [em 46 (by omega) (by omega)]; exact c2
theorem rk_flip {h h' : Nat → Int32} (h1 : ¬ h w = 0) (h2 : h' w = 0) (e : ∀ v, v ≠ w → h' v = h v) : ∀ {n : Nat}, w < n → rk h' n + 1 = rk h n
  | 0, hn => absurd hn (by omega)
  | n + 1, hn => by
    show rk h' n + b2n (h' n) + 1 = rk h n + b2n (h n)
    by_cases z : w = n
    · subst z
      rw [rk_congr (h := h') (h' := h) (fun v hv => e v (by omega)), h2]
      unfold b2n
      rw [if_neg h1]
      rfl
    · rw [e n (by omega)]
      have := rk_flip h1 h2 e (n := n) (by omega)
      omega
theorem IX_fi (hI : IX c r mm ns fi u rem ex) (hw4 : w < 4) (hr : r 0 w = some s) : ∃ f, fi = f + 1 := by
  obtain ⟨c1, c2, c3⟩ := hI.2.2.2.2
  have a := ct_le (fun j => decide (mm 46 j = 0)) ns
  have b := hn_none hw4 hr
  have : u ≤ ns := by rw [c2]; exact a
  exact ⟨fi - 1, by omega⟩
theorem IX_lose0 (hI : IX c r mm ns fi u rem 4) (hw4 : w < 4) (hr : r 0 w = none) (hh : c 15 w 2 = 1)
    (fc : ∀ k i j, ¬ (k = 15 ∧ i = w ∧ j = 2) → ¬ (k = 8 ∧ i = 0 ∧ j = 1) → c' k i j = c k i j) (d1 : c' 15 w 2 = 0) (d2 : c' 8 0 1 = c 8 0 1 - 1)
    (fm : ∀ k j, ¬ (k = 50 ∧ j = w) → mm' k j = mm k j) (m1 : mm' 50 w = 0) :
    IX c' r mm' ns fi u rem 4 ∧ rk (fun i => c' 15 i 2) 4 + 1 = rk (fun i => c 15 i 2) 4 := by
  obtain ⟨hB, ⟨l1, l2, l3, l4, l5, l6, l7⟩, ⟨hH, hU⟩, hD, ⟨c1, c2, c3⟩⟩ := hI
  have hrk : rk (fun i => c' 15 i 2) 4 + 1 = rk (fun i => c 15 i 2) 4 := rk_flip (w := w) (by show ¬ c 15 w 2 = 0; rw [hh]; decide) d1 (fun v hv => fc _ _ _ (by omega) (by omega)) hw4
  have em : ∀ k, k ≠ 50 → mm' k = mm k := fun k hk => funext fun j => fm _ _ (by omega)
  refine ⟨⟨?_, ⟨l1, ?_, ?_, ?_, ?_, fun j h1 h2 => ?_, l7⟩, ⟨fun v hv => ?_, hU⟩, fun v hv => ?_, ?_, ?_, c3⟩, hrk⟩
  · have hW := hB.2.2.2.2.1
    have h6 := hB.2.2.2.2.2.1
    refine BaseR_mk hB (fun k i j hk => fc _ _ _ (by omega) (by omega)) (fun k j hk => fm _ _ (by omega)) (fun v hv => ?_) ?_ ?_ ?_ ?_ (fun j hj => ?_) (fun i hi => ?_)
    · obtain ⟨g1, g2, g3, g4⟩ := hW v hv
      have g5 : c' 15 v 3 = c 15 v 3 := fc _ _ _ (by omega) (by omega)
      have g6 : mm' 51 v = mm 51 v := fm _ _ (by omega)
      by_cases e : v = w
      · subst e
        exact ⟨Or.inl d1, m1.trans d1.symm, (g6.trans g3).trans g5.symm, by show 0 ≤ c' 15 v 3; rw [g5]; exact g4⟩
      · have g7 : c' 15 v 2 = c 15 v 2 := fc _ _ _ (by omega) (by omega)
        have g8 : mm' 50 v = mm 50 v := fm _ _ (by omega)
        exact ⟨by show c' 15 v 2 = 0 ∨ c' 15 v 2 = 1; rw [g7]; exact g1, by show mm' 50 v = c' 15 v 2; rw [g7, g8]; exact g2, (g6.trans g3).trans g5.symm, by show 0 ≤ c' 15 v 3; rw [g5]; exact g4⟩
    · have h6' : c 8 0 1 = nI (rk (fun i => c 15 i 2) 4) := h6
      rw [d2, h6', ← hrk, nI_pred]
    · rw [fc 8 0 2 (by omega) (by omega), em 22 (by omega)]; exact hB.2.2.2.2.2.2.1
    · rw [fc 8 0 3 (by omega) (by omega), em 22 (by omega)]; exact hB.2.2.2.2.2.2.2.1
    · rw [fc 8 0 4 (by omega) (by omega), em 22 (by omega)]; exact hB.2.2.2.2.2.2.2.2.1
    · rw [fc 10 0 j (by omega) (by omega), em 22 (by omega)]; exact Base_t hB j hj
    · rw [fc 11 i 5 (by omega) (by omega), em 45 (by omega)]; exact hB.2.2.2.2.2.2.2.2.2.2.2.2.2.2.2.2.2 i hi
  · rw [fc 6 0 1 (by omega) (by omega)]; exact l2
  · rw [fc 6 0 2 (by omega) (by omega)]; exact l3
  · rw [em 22 (by omega)]; exact l4
  · rw [em 22 (by omega)]; exact l5
  · rw [em 47 (by omega), em 46 (by omega)]; exact l6 j h1 h2
  · rw [em 52 (by omega), em 46 (by omega)]
    rcases hH v hv with h | ⟨s', a1, a2, a3, a4, a5, a6⟩
    · exact Or.inl h
    · have e : v ≠ w := fun e => by rw [e, hr] at a2; cases a2
      exact Or.inr ⟨s', a1, a2, a3, by rw [fc 15 v 2 (by omega) (by omega)]; exact a4, a5, fun e => Hold_fr (a6 e) (fc _ _ _ (by omega) (by omega)) (fc _ _ _ (by omega) (by omega)) (fun k j _ _ => fc _ _ _ (by omega) (by omega)) (fm _ _ (by omega)) (fm _ _ (by omega)) (fm _ _ (by omega)) (fun k j _ _ _ => fm _ _ (by omega))⟩
  · rw [em 46 (by omega)]
    rcases hD v hv with h | ⟨h1, h2⟩
    · exact Or.inl h
    · exact Or.inr ⟨h1, Dn_fr h2 (fun j _ _ => fc _ _ _ (by omega) (by omega)) (fm _ _ (by omega)) (fm _ _ (by omega)) (fun k j _ _ _ => fm _ _ (by omega))⟩
  · rw [fc 0 0 6 (by omega) (by omega)]; exact c1
  · rw [em 46 (by omega)]; exact c2
/-- a share goes back in front (the worker is removed behind it) -/
theorem IX_front {f : Nat} (hI : IX c r mm ns (f + 1) u rem 4) (hw4 : w < 4) (hr : r 0 w = some s)
    (fc : ∀ k i j, ¬ (k = 6 ∧ i = 0 ∧ j = 1) → ¬ (k = 10 ∧ i = 0 ∧ j = 5) → c' k i j = c k i j) (d1 : c' 6 0 1 = nI f) (d2 : c' 10 0 5 = c 10 0 5 + 1)
    (fm : ∀ k j, ¬ (k = 22 ∧ (j = 18 ∨ j = 33)) → ¬ (k = 52 ∧ j = w) → ¬ (k = 47 ∧ j = 200 + f) → mm' k j = mm k j) (m1 : mm' 22 18 = nI (200 + f)) (m2 : mm' 22 33 = mm 22 33 + 1) (m3 : mm' 52 w = -2000000) (m4 : mm' 47 (200 + f) = nI s) :
    IX c' (upr (upr r 1 f (some s)) 0 w none) mm' ns f u (fun v => if v = w then 0 else rem v) 4 := by
  obtain ⟨b1, b2, b3, b4, _⟩ := IX_at hI hw4 hr
  obtain ⟨hB, ⟨l1, l2, l3, l4, l5, l6, l7⟩, ⟨hH, hU⟩, hD, ⟨c1, c2, c3⟩⟩ := hI
  have e2 : (fun i => c' 15 i 2) = fun i => c 15 i 2 := funext fun i => fc _ _ _ (by omega) (by omega)
  have e3 : (fun i => c' 15 i 3) = fun i => c 15 i 3 := funext fun i => fc _ _ _ (by omega) (by omega)
  have em : ∀ k, k ≠ 22 → k ≠ 52 → k ≠ 47 → mm' k = mm k := fun k hk hk2 hk3 => funext fun j => fm _ _ (by omega) (by omega) (by omega)
  have hnn : hn (upr (upr r 1 f (some s)) 0 w none) + 1 = hn r := by
    have e : hn (upr (upr r 1 f (some s)) 0 w none) = hn (upr r 0 w none) := by
      unfold hn
      exact ct_congr fun j hj => by simp [upr]
    rw [e]
    exact hn_none hw4 hr
  have hne : ∀ j, f + 1 ≤ j → j < ns → r 1 j ≠ some s := fun j h1 h2 z => by
    obtain ⟨s', a1, a2, a3, a4, a5⟩ := l6 j h1 h2
    have : s' = s := Option.some.inj (a2.symm.trans z)
    exact a5 w hw4 (this ▸ hr)
  refine ⟨?_, ⟨by omega, d1, ?_, m1, ?_, fun j h1 h2 => ?_, fun j j' h1 h2 h3 => ?_⟩, ⟨fun v hv => ?_, fun v v' s' hv hv' g1 g2 => ?_⟩, fun v hv => ?_, ?_, ?_, by omega⟩
  · have hW := hB.2.2.2.2.1
    have h6 := hB.2.2.2.2.2.1
    refine BaseR_mk hB (fun k i j hk => fc _ _ _ (by omega) (by omega)) (fun k j hk => fm _ _ (by omega) (by omega) (by omega)) ?_ ?_ ?_ ?_ ?_ (fun j hj => ?_) (fun i hi => ?_)
    · rw [e2, e3, em 50 (by omega) (by omega) (by omega), em 51 (by omega) (by omega) (by omega)]; exact hW
    · rw [fc 8 0 1 (by omega) (by omega), e2]; exact h6
    · rw [fc 8 0 2 (by omega) (by omega), fm 22 24 (by omega) (by omega) (by omega)]; exact hB.2.2.2.2.2.2.1
    · rw [fc 8 0 3 (by omega) (by omega), fm 22 23 (by omega) (by omega) (by omega)]; exact hB.2.2.2.2.2.2.2.1
    · rw [fc 8 0 4 (by omega) (by omega), fm 22 25 (by omega) (by omega) (by omega)]; exact hB.2.2.2.2.2.2.2.2.1
    · by_cases ej : j = 5
      · subst ej
        rw [d2, m2, Base_t hB 5 hj]
      · rw [fc 10 0 j (by omega) (by omega), fm 22 (28 + j) (by omega) (by omega) (by omega)]; exact Base_t hB j hj
    · rw [fc 11 i 5 (by omega) (by omega), em 45 (by omega) (by omega) (by omega)]; exact hB.2.2.2.2.2.2.2.2.2.2.2.2.2.2.2.2.2 i hi
  · rw [fc 6 0 2 (by omega) (by omega)]; exact l3
  · rw [fm 22 19 (by omega) (by omega) (by omega)]; exact l5
  · by_cases ej : j = f
    · subst ej
      refine ⟨s, b1, by simp [upr], m4, by rw [em 46 (by omega) (by omega) (by omega)]; exact b4, fun v hv => ?_⟩
      by_cases e : v = w
      · subst e; simp [upr]
      · intro z
        exact e (hU v w s hv hw4 (by simpa [upr, e] using z) hr)
    · obtain ⟨s', a1, a2, a3, a4, a5⟩ := l6 j (by omega) h2
      refine ⟨s', a1, by simpa [upr, ej] using a2, by rw [fm 47 _ (by omega) (by omega) (by omega)]; exact a3, by rw [em 46 (by omega) (by omega) (by omega)]; exact a4, fun v hv => ?_⟩
      by_cases e : v = w
      · subst e; simp [upr]
      · simpa [upr, e] using a5 v hv
  · have ej' : j' ≠ f := by omega
    by_cases ej : j = f
    · subst ej
      have := hne j' (by omega) h3
      simp [upr, ej']
      exact fun z => this z.symm
    · simpa [upr, ej, ej'] using l7 j j' (by omega) h2 h3
  · by_cases e : v = w
    · subst e
      exact Or.inl ⟨by simp [upr], m3, by simp⟩
    · rcases hH v hv with ⟨h1, h2, h3⟩ | ⟨s', a1, a2, a3, a4, a5, a6⟩
      · exact Or.inl ⟨by simpa [upr, e] using h1, by rw [fm 52 v (by omega) (by omega) (by omega)]; exact h2, by simp only [if_neg e]; exact h3⟩
      · refine Or.inr ⟨s', a1, by simpa [upr, e] using a2, by rw [fm 52 v (by omega) (by omega) (by omega)]; exact a3, by rw [fc 15 v 2 (by omega) (by omega)]; exact a4, by rw [em 46 (by omega) (by omega) (by omega)]; exact a5, fun _ => ?_⟩
        simp only [if_neg e]
        exact Hold_fr (a6 (by omega)) (fc _ _ _ (by omega) (by omega)) (fc _ _ _ (by omega) (by omega)) (fun k j _ _ => fc _ _ _ (by omega) (by omega)) (fm _ _ (by omega) (by omega) (by omega)) (fm _ _ (by omega) (by omega) (by omega)) (fm _ _ (by omega) (by omega) (by omega)) (fun k j _ _ _ => fm _ _ (by omega) (by omega) (by omega))
  · by_cases e : v = w
    · subst e; simp [upr] at g1
    · by_cases e' : v' = w
      · subst e'; simp [upr] at g2
      · exact hU v v' s' hv hv' (by simpa [upr, e] using g1) (by simpa [upr, e'] using g2)
  · rw [em 46 (by omega) (by omega) (by omega)]
    rcases hD v hv with h | ⟨h1, h2⟩
    · exact Or.inl h
    · exact Or.inr ⟨h1, Dn_fr h2 (fun j _ _ => fc _ _ _ (by omega) (by omega)) (fm _ _ (by omega) (by omega) (by omega)) (fm _ _ (by omega) (by omega) (by omega)) (fun k j _ _ _ => fm _ _ (by omega) (by omega) (by omega))⟩
  · rw [fc 0 0 6 (by omega) (by omega)]; exact c1
  · rw [em 46 (by omega) (by omega) (by omega)]; exact c2
end
def T_act (v6 : Int32) (m7 : MW) (K : MW → Prop) : Prop := (vp_in v6 4 ∧ (vp_in (m7.2 52 (v6).toNatClampNeg) 10 ∧ (V_X8_work  ((m7.2 52 (v6).toNatClampNeg)) ((m7.2 38 ((m7.2 52 (v6).toNatClampNeg)).toNatClampNeg)) m7 (fun v9 m8 => (vp_in (m7.2 52 (v6).toNatClampNeg) 10 ∧ ∀ m10 : MW, m10 = (m8.1, up2 m8.2 44 ((m7.2 52 (v6).toNatClampNeg)).toNatClampNeg v9) → (vp_in (m7.2 52 (v6).toNatClampNeg) 10 ∧ (vp_in (m7.2 52 (v6).toNatClampNeg) 10 ∧ ∀ m11 : MW, m11 = (m10.1, up2 m10.2 38 ((m7.2 52 (v6).toNatClampNeg)).toNatClampNeg ((m10.2 38 ((m7.2 52 (v6).toNatClampNeg)).toNatClampNeg) + 1)) → (vp_in (m7.2 52 (v6).toNatClampNeg) 10 ∧ ((0 < (m11.2 44 ((m7.2 52 (v6).toNatClampNeg)).toNatClampNeg) → (V_X8_done  (v6) ((m7.2 52 (v6).toNatClampNeg)) m11 (fun m12 => (K m12)))) ∧ (¬ 0 < (m11.2 44 ((m7.2 52 (v6).toNatClampNeg)).toNatClampNeg) → (vp_in (m7.2 52 (v6).toNatClampNeg) 10 ∧ (vp_in (m7.2 52 (v6).toNatClampNeg) 10 ∧ ((¬ (m11.2 38 ((m7.2 52 (v6).toNatClampNeg)).toNatClampNeg) = (m11.2 34 ((m7.2 52 (v6).toNatClampNeg)).toNatClampNeg) → (K m11)) ∧ ((m11.2 38 ((m7.2 52 (v6).toNatClampNeg)).toNatClampNeg) = (m11.2 34 ((m7.2 52 (v6).toNatClampNeg)).toNatClampNeg) → (V_X8_done  (v6) ((m7.2 52 (v6).toNatClampNeg)) m11 (fun m13 => (K m13)))))))))))))))))
def T_take (v6 : Int32) (m7 : MW) (K : MW → Prop) : Prop := (((m7.2 22 19) ≤ (m7.2 22 18) → (K m7)) ∧ (¬ (m7.2 22 19) ≤ (m7.2 22 18) → (vp_in (m7.2 22 18) 400 ∧ (∀ m14 : MW, m14 = (m7.1, up2 m7.2 22 18 ((m7.2 22 18) + 1)) → (vp_in v6 4 ∧ ∀ m15 : MW, m15 = (m14.1, up2 m14.2 52 (v6).toNatClampNeg (m7.2 47 ((m7.2 22 18)).toNatClampNeg)) → (∀ m16 : MW, m16 = (m15.1, up2 m15.2 22 32 ((m15.2 22 32) + 1)) → (V_X8_begin  ((m7.2 47 ((m7.2 22 18)).toNatClampNeg)) m16 (fun m17 => (vp_in (m7.2 47 ((m7.2 22 18)).toNatClampNeg) 10 ∧ ((¬ (m17.2 34 ((m7.2 47 ((m7.2 22 18)).toNatClampNeg)).toNatClampNeg) = 0 → (K m17)) ∧ ((m17.2 34 ((m7.2 47 ((m7.2 22 18)).toNatClampNeg)).toNatClampNeg) = 0 → (V_X8_done  (v6) ((m7.2 47 ((m7.2 22 18)).toNatClampNeg)) m17 (fun m18 => (K m18))))))))))))))
def T_lost (v6 : Int32) (m7 : MW) (K : MW → Prop) : Prop := (vp_in v6 4 ∧ ∀ m30 : MW, m30 = (m7.1, up2 m7.2 50 (v6).toNatClampNeg 0) → (vp_in v6 4 ∧ (((m30.2 52 (v6).toNatClampNeg) = (-2000000) → (K m30)) ∧ (¬ (m30.2 52 (v6).toNatClampNeg) = (-2000000) → (∀ m31 : MW, m31 = (m30.1, up2 m30.2 22 18 ((m30.2 22 18) - 1)) → (vp_in v6 4 ∧ (vp_in (m31.2 22 18) 400 ∧ ∀ m32 : MW, m32 = (m31.1, up2 m31.2 47 ((m31.2 22 18)).toNatClampNeg (m31.2 52 (v6).toNatClampNeg)) → (vp_in v6 4 ∧ ∀ m33 : MW, m33 = (m32.1, up2 m32.2 52 (v6).toNatClampNeg (-2000000)) → (∀ m34 : MW, m34 = (m33.1, up2 m33.2 22 33 ((m33.2 22 33) + 1)) → (K m34))))))))))
def cH (c : Nat → Nat → Nat → Int32) (w : Nat) : Nat → Nat → Nat → Int32 := up3 (up3 (up3 c 8 0 2 (c 8 0 2 * 1103515245 + 12345)) 8 0 3 (c 8 0 3 + 1)) 8 0 4 (nI w)
def mH (mm : MM) (w : Nat) : MM := up2 (up2 (up2 mm 22 23 (mm 22 23 + 1)) 22 24 (mm 22 24 * 1103515245 + 12345)) 22 25 (nI w)
/-- w is the one whose turn it is -/
def Mov (c : Nat → Nat → Nat → Int32) (n w : Nat) : Prop := n = rk (fun i => c 15 i 2) 4 ∧ 1 ≤ n ∧ w < 4 ∧ c 15 w 2 = 1 ∧ rk (fun i => c 15 i 2) w = pos n (nx (uN32 (c 8 0 2)))
section
variable {c : Nat → Nat → Nat → Int32} {r : Nat → Nat → Option Nat} {mm : MM} {n w s : Nat} {C : MC}
theorem cNext (hm : Mov c n w) (h6 : c 8 0 1 = nI n) {K : Option Nat → MW → Prop} (k : K (some w) ((cH c w, r), mm)) : V_X1_nextToMove ((c, r), mm) K := by
  obtain ⟨a1, a2, a3, a4, a5⟩ := hm
  have hn4 : n ≤ 4 := by rw [a1]; exact rk_le _ 4
  have b1 : (0 : Int32) < nI n := (nI_ltL (a := 0) (by omega) (by omega)).mpr (by omega)
  have b2 : ¬ nI n = 0 := fun e => by have := (nI_eqL (b := 0) (by omega) (by omega)).mp e; omega
  have u1 : ∀ x, up3 (up3 c 8 0 2 x) 8 0 3 (c 8 0 3 + 1) 8 0 1 = nI n := fun x => by simpa [up3] using h6
  have u2 : ∀ x, up3 (up3 c 8 0 2 x) 8 0 3 (c 8 0 3 + 1) 8 0 2 = x := fun x => by simp [up3]
  have u3 : ∀ x, up3 c 8 0 2 x 8 0 3 = c 8 0 3 := fun x => by simp [up3]
  unfold V_X1_nextToMove
  simp only [forall_eq, h6, u3, u1, u2]
  refine br_t b1 ⟨b2, ?_⟩
  rw [pos_i _ a2 hn4, nx_i]
  refine cAt a3 (by simp [up3]; rw [a4]; decide) (by simpa [up3_kn] using a5) ⟨fun z => (by cases z), fun a z => ?_⟩
  have : w = a := Option.some.inj z
  subst this
  exact ⟨a3, k⟩
theorem cTurn_l (hm : Mov c n w) (h6 : c 8 0 1 = nI n) (h1 : ¬ c 15 w 3 = 0) (h2 : ¬ c 8 0 3 + 1 < c 15 w 3) {K : MW → Prop} (k : V_X7_loseNow w ((cH c w, r), mm) K) : V_X7_playTurn ((c, r), mm) K := by
  refine cNext hm h6 ⟨fun z => (by cases z), fun a z => ?_⟩
  have : w = a := Option.some.inj z
  subst this
  refine ⟨hm.2.2.1, br_f ?_ (br_f ?_ (br_f (by decide) k))⟩
  · show ¬ cH c w 15 w 3 = 0
    simpa [cH, up3] using h1
  · show ¬ cH c w 8 0 3 < cH c w 15 w 3
    simpa [cH, up3] using h2
theorem cTurn_n (hm : Mov c n w) (h6 : c 8 0 1 = nI n) (h : c 15 w 3 = 0 ∨ (¬ c 15 w 3 = 0 ∧ c 8 0 3 + 1 < c 15 w 3)) {K : MW → Prop} (k : (r 0 w = none → V_X7_takeShare w ((cH c w, r), mm) K) ∧ (∀ s, r 0 w = some s → s < 10 ∧ V_X7_doNextAct w s ((cH c w, r), mm) K)) : V_X7_playTurn ((c, r), mm) K := by
  refine cNext hm h6 ⟨fun z => (by cases z), fun a z => ?_⟩
  have : w = a := Option.some.inj z
  subst this
  refine ⟨hm.2.2.1, ?_⟩
  rcases h with h | ⟨h1, h2⟩
  · refine br_t ?_ (br_t rfl k)
    show cH c w 15 w 3 = 0
    simpa [cH, up3] using h
  · refine br_f ?_ (br_t ?_ (br_t rfl k))
    · show ¬ cH c w 15 w 3 = 0
      simpa [cH, up3] using h1
    · show cH c w 8 0 3 < cH c w 15 w 3
      simpa [cH, up3] using h2
theorem mTurn (hm : Mov c n w) (e5 : ∀ v, v < 4 → mm 50 v = c 15 v 2) (ex : mm 22 24 = c 8 0 2) {K : MW → Prop}
    (k : (mm 51 w ≤ 0 → (mm 52 w = -2000000 → T_take (nI w) (C, mH mm w) K) ∧ (¬ mm 52 w = -2000000 → T_act (nI w) (C, mH mm w) K)) ∧ (¬ mm 51 w ≤ 0 → (mm 22 23 + 1 < mm 51 w → (mm 52 w = -2000000 → T_take (nI w) (C, mH mm w) K) ∧ (¬ mm 52 w = -2000000 → T_act (nI w) (C, mH mm w) K)) ∧ (¬ mm 22 23 + 1 < mm 51 w → T_lost (nI w) (C, mH mm w) K))) : V_X8_turn (C, mm) K := by
  obtain ⟨a1, a2, a3, a4, a5⟩ := hm
  have hn4 : n ≤ 4 := by rw [a1]; exact rk_le _ 4
  have b2 : ¬ nI n = 0 := fun e => by have := (nI_eqL (b := 0) (by omega) (by omega)).mp e; omega
  have hc : (nI w).toNatClampNeg = w := nI_cl (by omega)
  have hv : vp_in (nI w) 4 := vin a3 (by decide)
  intro m1 e1 m2 e2
  subst e1; subst e2
  have u1 : ∀ v, v < 4 → (up2 (up2 mm 22 23 (mm 22 23 + 1)) 22 24 (up2 mm 22 23 (mm 22 23 + 1) 22 24 * 1103515245 + 12345)) 50 v = c 15 v 2 := fun v hv => by simpa [up2] using e5 v hv
  refine mLeft' (h := fun i => c 15 i 2) u1 _ _ ?_
  rw [← a1]
  refine ⟨b2, ?_⟩
  have u2 : up2 mm 22 23 (mm 22 23 + 1) 22 24 = mm 22 24 := by simp [up2]
  show V_X8_workerAt _ (C, _) _
  have u3 : (up2 (up2 mm 22 23 (mm 22 23 + 1)) 22 24 (up2 mm 22 23 (mm 22 23 + 1) 22 24 * 1103515245 + 12345)) 22 24 = c 8 0 2 * 1103515245 + 12345 := by simp [up2, ex]
  simp only [u3]
  rw [pos_i _ a2 hn4, nx_i]
  refine mAt a3 ?_ ?_ ?_
  · simp only [u2]
    have := e5 w a3
    simp [up2]; rw [this, a4]; decide
  · rw [← a5]
    exact rk_congr (fun v hv => u1 v (by omega))
  · intro m7 e7
    have e7' : m7 = (C, mH mm w) := by rw [e7]; simp only [u2]; rfl
    rw [e7']
    have g1 : mH mm w 51 w = mm 51 w := by simp [mH, up2]
    have g2 : mH mm w 52 w = mm 52 w := by simp [mH, up2]
    have g3 : mH mm w 22 23 = mm 22 23 + 1 := by simp [mH, up2]
    simp only [hc, g1, g2, g3]
    have key : (mm 52 w = -2000000 → T_take (nI w) (C, mH mm w) K) ∧ (¬ mm 52 w = -2000000 → T_act (nI w) (C, mH mm w) K) → (¬ mm 52 w = -2000000 → T_act (nI w) (C, mH mm w) K) ∧ (mm 52 w = -2000000 → T_take (nI w) (C, mH mm w) K) := fun h => ⟨h.2, h.1⟩
    have kk := k
    refine ⟨hv, fun q => ⟨hv, ?_⟩, fun q => ⟨hv, fun q2 => ⟨hv, ?_⟩, fun q2 => ?_⟩⟩
    · have := key (k.1 q)
      unfold T_act T_take at this
      simpa only [hc, g1, g2, g3] using this
    · have := key ((k.2 q).1 q2)
      unfold T_act T_take at this
      simpa only [hc, g1, g2, g3] using this
    · have := (k.2 q).2 q2
      unfold T_lost at this
      simpa only [hc, g1, g2, g3] using this
end
def cF (c : Nat → Nat → Nat → Int32) (w s e : Nat) : Nat → Nat → Nat → Int32 := up3 (up3 (up3 (up3 c 11 s 6 (nI e)) 11 s 5 (nI w)) 10 0 5 (c 10 0 5 + 1)) 0 0 6 (c 0 0 6 - 1)
def mF (mm : MM) (w s : Nat) : MM := up2 (up2 (up2 (up2 mm 46 s 1) 45 s (nI w)) 52 w (-2000000)) 22 33 (mm 22 33 + 1)
def cB (c : Nat → Nat → Nat → Int32) (w : Nat) : Nat → Nat → Nat → Int32 := up3 (up3 (up3 (up3 (up3 c 15 w 5 0) 16 w 2 0) 19 w 0 0) 19 w 1 0) 19 w 2 0
def mB (mm : MM) (s : Nat) : MM := up2 (up2 (up2 (up2 (up2 (up2 (up2 (up2 (up2 mm 38 s 0) 39 s 0) 44 s 0) 42 (3 * s + 0) 1) 43 (3 * s + 0) 0) 42 (3 * s + 1) 1) 43 (3 * s + 1) 0) 42 (3 * s + 2) 1) 43 (3 * s + 2) 0
section
variable {c : Nat → Nat → Nat → Int32} {r : Nat → Nat → Option Nat} {mm : MM} {ns fi u n w s e h : Nat} {rem : Nat → Nat} {C : MC} {K : MW → Prop}
theorem cFin1 (h0 : ¬ nI e = 0) (k : K ((cF c w s e, upr r 0 w none), mm)) : V_X7_finish w s (nI e) ((c, r), mm) K := by
  refine nr_t h0 ?_
  intro m1 e1 m2 e2 m3 e3 m4 e4 m5 e5
  subst e1; subst e2; subst e3; subst e4; subst e5
  have u1 : up3 (up3 c 11 s 6 (nI e)) 11 s 5 (nI w) 10 0 5 = c 10 0 5 := by simp [up3]
  have u2 : ∀ x, up3 (up3 (up3 c 11 s 6 (nI e)) 11 s 5 (nI w)) 10 0 5 x 0 0 6 = c 0 0 6 := fun x => by simp [up3]
  simp only [u1, u2]
  exact k
theorem cGive0 {K : Int32 → MW → Prop} (hh : c 16 w 2 = nI 0) (k : K 2 ((c, r), mm)) : V_X0_giveAnswer w s ((c, r), mm) K := br_f (show ¬ 1 ≤ c 16 w 2 by rw [hh]; decide) k
theorem cGive1 {K : Int32 → MW → Prop} (hh : c 16 w 2 = nI (h + 1)) (h3 : h < 3) (k : K 0 ((up3 (up3 c 11 s 7 (c 17 w h)) 11 s 8 (c 18 w h), r), mm)) : V_X0_giveAnswer w s ((c, r), mm) K := by
  have c1 : (1 : Int32) ≤ nI (h + 1) := (nI_leL (a := 1) (by omega) (by omega)).mpr (by omega)
  have c2 : vp_in (nI h) 3 := vin h3 (by decide)
  have c3 : (nI h).toNatClampNeg = h := nI_cl (by omega)
  unfold V_X0_giveAnswer
  simp only [forall_eq, hh, nI_pred, c3, up3_kn (show (16 : Nat) ≠ 11 by decide), up3_kn (show (18 : Nat) ≠ 11 by decide)]
  exact br_t c1 ⟨c2, c2, k⟩
theorem cFin0 {K1 : Int32 → MW → Prop} (v : Nat) {c1 : Nat → Nat → Nat → Int32} (hg : ∀ K : Int32 → MW → Prop, K (nI v) ((c1, r), mm) → V_X0_giveAnswer w s ((c, r), mm) K) (q1 : c1 10 0 5 = c 10 0 5) (q2 : c1 0 0 6 = c 0 0 6) (k : K ((cF c1 w s v, upr r 0 w none), mm)) : V_X7_finish w s (nI 0) ((c, r), mm) K := by
  refine nr_f rfl (hg _ ?_)
  intro m1 e1 m2 e2 m3 e3 m4 e4 m5 e5
  subst e1; subst e2; subst e3; subst e4; subst e5
  have u1 : up3 (up3 c1 11 s 6 (nI v)) 11 s 5 (nI w) 10 0 5 = c1 10 0 5 := by simp [up3]
  have u2 : ∀ x, up3 (up3 (up3 c1 11 s 6 (nI v)) 11 s 5 (nI w)) 10 0 5 x 0 0 6 = c1 0 0 6 := fun x => by simp [up3]
  simp only [u1, u2]
  exact k
theorem mDone (hw : w < 4) (hs : s < 10) (k : (¬ mm 44 s = 0 → K (C, mF mm w s)) ∧ (mm 44 s = 0 → (¬ mm 39 s = 0 → K (C, mF mm w s)) ∧ (mm 39 s = 0 → K (C, up2 (mF mm w s) 44 s 2)))) : V_X8_done (nI w) (nI s) (C, mm) K := by
  have a1 : vp_in (nI s) 10 := vin hs (by decide)
  have a2 : vp_in (nI w) 4 := vin hw (by decide)
  have a3 : (nI s).toNatClampNeg = s := nI_cl (by omega)
  have a4 : (nI w).toNatClampNeg = w := nI_cl (by omega)
  have u1 : up2 (up2 (up2 mm 46 s 1) 45 s (nI w)) 52 w (-2000000) 22 33 = mm 22 33 := by simp [up2]
  have u2 : ∀ x, up2 (up2 (up2 (up2 mm 46 s 1) 45 s (nI w)) 52 w (-2000000)) 22 33 x 44 s = mm 44 s := fun x => by simp [up2]
  have u3 : ∀ x, up2 (up2 (up2 (up2 mm 46 s 1) 45 s (nI w)) 52 w (-2000000)) 22 33 x 39 s = mm 39 s := fun x => by simp [up2]
  unfold V_X8_done
  simp only [forall_eq, a3, a4, u1, u2, u3]
  exact ⟨a1, a1, a2, a1, k.1, fun q => ⟨a1, (k.2 q).1, fun q2 => ⟨a1, (k.2 q).2 q2⟩⟩⟩
theorem fin_sim (hI : IX c r mm ns fi u rem w) (hw4 : w < 4) (hw : r 0 w = some s) (h5 : e ≤ 5) (he : mm 44 s = nI e) (hst : e = 0 → ∃ h, StR c mm w s h) :
    ∃ c' mm' u', u = u' + 1 ∧ Cv (V_X7_finish w s (nI e)) (c, r) (c', upr r 0 w none) ∧ Mv (V_X8_done (nI w) (nI s)) mm mm' ∧ IX c' (upr r 0 w none) mm' ns fi u' (fun v => if v = w then 0 else rem v) 4 ∧ c' 15 = c 15 ∧ c' 8 = c 8 ∧ (∀ i, c' 11 i 4 = c 11 i 4) := by
  obtain ⟨b1, b2, b3, b4, _⟩ := IX_at hI hw4 hw
  have hs10 : s < 10 := by have := hI.1.2.2.1.1; omega
  have key : ∀ (c1 : Nat → Nat → Nat → Int32) (mm1 : MM) (v : Nat), (∀ k i j, ¬ (k = 11 ∧ i = s ∧ 5 ≤ j ∧ j ≤ 8) → c1 k i j = c k i j) → (∀ k j, ¬ (k = 44 ∧ j = s) → mm1 k j = mF mm w s k j) → Dn (cF c1 w s v) mm1 s → ∃ u', u = u' + 1 ∧ IX (cF c1 w s v) (upr r 0 w none) mm1 ns fi u' (fun v => if v = w then 0 else rem v) 4 := by
    intro c1 mm1 v fc fm hD
    refine IX_fin hI hw4 hw (fun k i j q1 q2 q3 => ?_) ?_ ?_ ?_ (fun k j q1 q2 q3 => ?_) ?_ ?_ ?_ ?_ hD
    · unfold cF up3
      rw [if_neg (by omega), if_neg (by omega), if_neg (by omega), if_neg (by omega)]
      exact fc _ _ _ (by omega)
    · simp [cF, up3]
    · simp [cF, up3]; rw [fc _ _ _ (by omega)]
    · simp [cF, up3]; rw [fc _ _ _ (by omega)]
    · rw [fm _ _ (by omega)]
      unfold mF up2
      rw [if_neg (by omega), if_neg (by omega), if_neg (by omega), if_neg (by omega)]
    · rw [fm _ _ (by omega)]; simp [mF, up2]
    · rw [fm _ _ (by omega)]; simp [mF, up2]
    · rw [fm _ _ (by omega)]; simp [mF, up2]
    · rw [fm _ _ (by omega)]; simp [mF, up2]
  have f15 : ∀ (c1 : Nat → Nat → Nat → Int32) (v : Nat), c1 15 = c 15 → cF c1 w s v 15 = c 15 := fun c1 v h => by
    rw [← h]; funext i j; simp [cF, up3]
  have f8 : ∀ (c1 : Nat → Nat → Nat → Int32) (v : Nat), c1 8 = c 8 → cF c1 w s v 8 = c 8 := fun c1 v h => by
    rw [← h]; funext i j; simp [cF, up3]
  have f11 : ∀ (c1 : Nat → Nat → Nat → Int32) (v : Nat), (∀ i, c1 11 i 4 = c 11 i 4) → ∀ i, cF c1 w s v 11 i 4 = c 11 i 4 := fun c1 v h i => by
    rw [← h]; simp [cF, up3]
  by_cases h0 : e = 0
  · subst h0
    obtain ⟨h, hS⟩ := hst rfl
    rcases Nat.eq_zero_or_pos h with z | z
    · subst z
      obtain ⟨u', hu, hX⟩ := key c (up2 (mF mm w s) 44 s 2) 2 (fun _ _ _ _ => rfl) (fun k j q => by unfold up2; rw [if_neg q]) ⟨2, by decide, by simp [cF, up3], by simp [up2]; rfl, fun q => absurd q (by decide)⟩
      refine ⟨_, _, u', hu, fun mm K k => ?_, fun C K k => ?_, hX, f15 c 2 rfl, f8 c 2 rfl, f11 c 2 (fun _ => rfl)⟩
      · exact cFin0 (K1 := fun _ _ => True) 2 (c1 := c) (fun K k => cGive0 hS.2.1 k) rfl rfl k
      · exact mDone hw4 hs10 (nr_f he (nr_f hS.2.2.1 k))
    · obtain ⟨d, rfl⟩ : ∃ d, h = d + 1 := ⟨h - 1, by omega⟩
      have hd : d < 3 := by have := hS.1; omega
      obtain ⟨x1, x2, x3⟩ := hS.2.2.2 d (by omega)
      obtain ⟨u', hu, hX⟩ := key (up3 (up3 c 11 s 7 (c 17 w d)) 11 s 8 (c 18 w d)) (mF mm w s) 0 (fun k i j q => by unfold up3; rw [if_neg (by omega), if_neg (by omega)]) (fun k j q => rfl) (by
        refine ⟨0, by decide, by simp [cF, up3], by simpa [mF, up2] using he, fun _ => ⟨d, hd, by simpa [mF, up2] using hS.2.2.1, ?_⟩⟩
        have y1 : mF mm w s 40 (3 * s + d) = c 17 w d := by simpa [mF, up2] using x2
        have y2 : mF mm w s 41 (3 * s + d) = c 18 w d := by simpa [mF, up2] using x3
        rw [y1, y2]
        exact ⟨x1, by simp [cF, up3], by simp [cF, up3]⟩)
      refine ⟨_, _, u', hu, fun mm K k => ?_, fun C K k => ?_, hX, f15 _ 0 (by funext i j; simp [up3]), f8 _ 0 (by funext i j; simp [up3]), f11 _ 0 (fun i => by simp [up3])⟩
      · exact cFin0 (K1 := fun _ _ => True) 0 (fun K k => cGive1 hS.2.1 hd k) (by simp [up3]) (by simp [up3]) k
      · refine mDone hw4 hs10 (nr_f he (nr_t ?_ k))
        rw [hS.2.2.1]
        exact fun g => by have := (nI_eqL (b := 0) (by omega) (by omega)).mp g; omega
  · have hne : ¬ nI e = 0 := fun g => h0 ((nI_eqL (b := 0) (by omega) (by omega)).mp g)
    obtain ⟨u', hu, hX⟩ := key c (mF mm w s) e (fun _ _ _ _ => rfl) (fun k j q => rfl) ⟨e, h5, by simp [cF, up3], by simpa [mF, up2] using he, fun q => absurd q h0⟩
    refine ⟨_, _, u', hu, fun mm K k => cFin1 hne k, fun C K k => mDone hw4 hs10 (nr_t (by rw [he]; exact hne) k), hX, f15 c e rfl, f8 c e rfl, f11 c e (fun _ => rfl)⟩
-- the beginning of a share
theorem cBegin (k : K ((cB c w, upr r 0 w (some s)), mm)) : V_X6_begin w s ((c, r), mm) K := by
  intro m1 e1 m2 e2
  subst e1; subst e2
  intro m3 e3
  subst e3
  refine ⟨4, ?_⟩
  refine br_f (by decide) ⟨vin (j := 0) (by decide) (by decide), fun m4 e4 => br_f (by decide) ⟨vin (j := 1) (by decide) (by decide), fun m5 e5 => br_f (by decide) ⟨vin (j := 2) (by decide) (by decide), fun m6 e6 => br_t (by decide) ?_⟩⟩⟩
  subst e4; subst e5; subst e6
  exact k
theorem mBegin (hs : s < 10) (k : K (C, mB mm s)) : V_X8_begin (nI s) (C, mm) K := by
  have a1 : vp_in (nI s) 10 := vin hs (by decide)
  have a3 : (nI s).toNatClampNeg = s := nI_cl (by omega)
  refine ⟨a1, fun m1 e1 => ⟨a1, fun m2 e2 => ⟨a1, fun m3 e3 => ⟨4, ?_⟩⟩⟩⟩
  rw [a3] at e1 e2 e3
  subst e1; subst e2; subst e3
  have i0 : (3 : Int32) * nI s + 0 = nI (3 * s + 0) := ix3 s 0
  have i1 : (3 : Int32) * nI s + (0 + 1) = nI (3 * s + 1) := ix3 s 1
  have i2 : (3 : Int32) * nI s + (0 + 1 + 1) = nI (3 * s + 2) := ix3 s 2
  have v0 : vp_in (nI (3 * s + 0)) 30 := vin (by omega) (by decide)
  have v1 : vp_in (nI (3 * s + 1)) 30 := vin (by omega) (by decide)
  have v2 : vp_in (nI (3 * s + 2)) 30 := vin (by omega) (by decide)
  have t0 : (nI (3 * s + 0)).toNatClampNeg = 3 * s + 0 := nI_cl (by omega)
  have t1 : (nI (3 * s + 1)).toNatClampNeg = 3 * s + 1 := nI_cl (by omega)
  have t2 : (nI (3 * s + 2)).toNatClampNeg = 3 * s + 2 := nI_cl (by omega)
  refine br_f (by decide) ?_
  rw [i0, t0]
  refine ⟨v0, fun m4 e4 => ⟨v0, fun m5 e5 => br_f (by decide) ?_⟩⟩
  rw [i1, t1]
  refine ⟨v1, fun m6 e6 => ⟨v1, fun m7 e7 => br_f (by decide) ?_⟩⟩
  rw [i2, t2]
  refine ⟨v2, fun m8 e8 => ⟨v2, fun m9 e9 => br_t (by decide) ?_⟩⟩
  subst e4; subst e5; subst e6; subst e7; subst e8; subst e9
  exact k
theorem Hold_begin : RowR (cB c w) (mB mm s) w s ∧ StR (cB c w) (mB mm s) w s 0 := by
  refine ⟨fun j hj => Or.inr ?_, by omega, by simp [cB, up3]; rfl, by simp [mB, up2]; rfl, fun j hj => absurd hj (by omega)⟩
  rcases (show j = 0 ∨ j = 1 ∨ j = 2 by omega) with rfl | rfl | rfl
  · exact ⟨by simp [cB, up3], by simp [mB, up2]⟩
  · exact ⟨by simp [cB, up3], by simp [mB, up2]⟩
  · exact ⟨by simp [cB, up3], by simp [mB, up2]⟩
end
section
variable {c : Nat → Nat → Nat → Int32} {r : Nat → Nat → Option Nat} {mm : MM} {ns fi u n w s e h : Nat} {rem : Nat → Nat} {C : MC} {K : MW → Prop}
theorem lose_sim (hI : IX c r mm ns fi u rem 4) (hw4 : w < 4) (hh : c 15 w 2 = 1) :
    ∃ c' r' mm' fi' rem', Cv (V_X7_loseNow w) (c, r) (c', r') ∧ Mv (T_lost (nI w)) mm mm' ∧ IX c' r' mm' ns fi' u rem' 4 ∧ rk (fun i => c' 15 i 2) 4 + 1 = rk (fun i => c 15 i 2) 4 ∧ c' 8 0 2 = c 8 0 2 ∧ (∀ i, c' 11 i 4 = c 11 i 4) := by
  have a4 : (nI w).toNatClampNeg = w := nI_cl (by omega)
  have a2 : vp_in (nI w) 4 := vin hw4 (by decide)
  cases hr : r 0 w with
  | none =>
    have h52 : mm 52 w = -2000000 := by
      rcases hI.2.2.1.1 w hw4 with ⟨_, g, _⟩ | ⟨s', _, g, _⟩
      · exact g
      · rw [hr] at g; cases g
    have X := IX_lose0 (c' := up3 (up3 c 15 w 2 0) 8 0 1 (c 8 0 1 - 1)) (mm' := up2 mm 50 w 0) hI hw4 hr hh (fun k i j q1 q2 => by unfold up3; rw [if_neg q2, if_neg q1]) (by simp [up3]) (by simp [up3]) (fun k j q => by unfold up2; rw [if_neg q]) (by simp [up2])
    refine ⟨_, r, _, fi, rem, fun mm K k => ⟨fun _ => ?_, fun a z => ?_⟩, fun C K k => ?_, X.1, X.2, by simp [up3], fun i => by simp [up3]⟩
    · intro m1 e1 m2 e2
      subst e1; subst e2
      have u1 : up3 c 15 w 2 0 8 0 1 = c 8 0 1 := by simp [up3]
      simp only [u1]
      exact k
    · have z' : r 0 w = some a := z
      rw [hr] at z'; cases z'
    · unfold T_lost
      have u1 : up2 mm 50 w 0 52 w = -2000000 := by simpa [up2] using h52
      simp only [forall_eq, a4, u1]
      exact ⟨a2, a2, br_t trivial k⟩
  | some s =>
    obtain ⟨f, rfl⟩ := IX_fi hI hw4 hr
    obtain ⟨b1, b2, b3, b4, _⟩ := IX_at hI hw4 hr
    have hns := hI.1.2.2.1.1
    have hf := hI.2.1.1
    have l2 : c 6 0 1 = nI (f + 1) := hI.2.1.2.1
    have l4 : mm 22 18 = nI (200 + f + 1) := hI.2.1.2.2.2.1
    have X1 := IX_front (c' := up3 (up3 c 6 0 1 (nI f)) 10 0 5 (c 10 0 5 + 1)) (mm' := up2 (up2 (up2 (up2 mm 22 18 (nI (200 + f))) 47 (200 + f) (nI s)) 52 w (-2000000)) 22 33 (mm 22 33 + 1)) hI hw4 hr
      (fun k i j q1 q2 => by unfold up3; rw [if_neg q2, if_neg q1]) (by simp [up3]) (by simp [up3])
      (fun k j q1 q2 q3 => by unfold up2; rw [if_neg (by omega), if_neg (by omega), if_neg (by omega), if_neg (by omega)]) (by simp [up2]) (by simp [up2]) (by simp [up2]) (by simp [up2])
    have X := IX_lose0 (c' := up3 (up3 (up3 (up3 c 6 0 1 (nI f)) 10 0 5 (c 10 0 5 + 1)) 15 w 2 0) 8 0 1 (c 8 0 1 - 1)) (mm' := up2 (up2 (up2 (up2 (up2 mm 50 w 0) 22 18 (nI (200 + f))) 47 (200 + f) (nI s)) 52 w (-2000000)) 22 33 (mm 22 33 + 1)) X1 hw4 (by simp [upr]) (by simpa [up3] using hh)
      (fun k i j q1 q2 => by
        show up3 (up3 (up3 (up3 c 6 0 1 (nI f)) 10 0 5 (c 10 0 5 + 1)) 15 w 2 0) 8 0 1 (c 8 0 1 - 1) k i j = up3 (up3 c 6 0 1 (nI f)) 10 0 5 (c 10 0 5 + 1) k i j
        generalize up3 (up3 c 6 0 1 (nI f)) 10 0 5 (c 10 0 5 + 1) = cc
        unfold up3; rw [if_neg q2, if_neg q1]) (by simp [up3]) (by simp [up3]) (fun k j q => by simp only [up2, q, ↓reduceIte]) (by simp [up2])
    refine ⟨_, _, _, _, _, fun mm K k => ⟨fun z => ?_, fun a z => ?_⟩, fun C K k => ?_, X.1, ?_, by simp [up3], fun i => by simp [up3]⟩
    · have z' : r 0 w = none := z
      rw [hr] at z'; cases z'
    · have z' : r 0 w = some a := z
      have : s = a := Option.some.inj (hr.symm.trans z')
      subst this
      refine ⟨by omega, br_f ?_ ?_⟩
      · show ¬ c 6 0 1 ≤ 0
        rw [l2]
        exact fun g => by have := (nI_leL (b := 0) (by omega) (by omega)).mp g; omega
      · intro m1 e1
        subst e1
        have u0 : up3 c 6 0 1 (c 6 0 1 - 1) = up3 c 6 0 1 (nI f) := by rw [l2, nI_pred]
        simp only [u0]
        have u1 : up3 c 6 0 1 (nI f) 6 0 1 = nI f := up3_self
        simp only [u1]
        refine ⟨vin (by omega) (by decide), fun m2 e2 m3 e3 m4 e4 m5 e5 m6 e6 => ?_⟩
        have hcf : (nI f).toNatClampNeg = f := nI_cl (by omega)
        rw [hcf] at e2
        subst e2; subst e3; subst e4; subst e5; subst e6
        have u2 : up3 c 6 0 1 (nI f) 10 0 5 = c 10 0 5 := by simp [up3]
        have u3 : ∀ x, up3 (up3 (up3 c 6 0 1 (nI f)) 10 0 5 x) 15 w 2 0 8 0 1 = c 8 0 1 := fun x => by simp [up3]
        simp only [u2, u3]
        exact k
    · unfold T_lost
      have h52 : ¬ nI s = -2000000 := fun g => by
        have := i_eq.mp g
        rw [nI_t (by omega), show (-2000000 : Int32).toInt = -2000000 by decide] at this
        omega
      have u1 : up2 mm 50 w 0 52 w = nI s := by simpa [up2] using b2
      have u2 : up2 mm 50 w 0 22 18 - 1 = nI (200 + f) := by
        have : up2 mm 50 w 0 22 18 = mm 22 18 := by simp [up2]
        rw [this, l4, nI_pred]
      have u3 : up2 (up2 mm 50 w 0) 22 18 (nI (200 + f)) 52 w = nI s := by simpa [up2] using b2
      have u4 : up2 (up2 mm 50 w 0) 22 18 (nI (200 + f)) 22 18 = nI (200 + f) := by simp [up2]
      have u5 : (nI (200 + f)).toNatClampNeg = 200 + f := nI_cl (by omega)
      have u6 : up2 (up2 (up2 (up2 mm 50 w 0) 22 18 (nI (200 + f))) 47 (200 + f) (nI s)) 52 w (-2000000) 22 33 = mm 22 33 := by simp [up2]
      simp only [forall_eq, a4, u1, u2, u3, u4, u5, u6]
      exact ⟨a2, a2, br_f h52 ⟨a2, vin (by omega) (by decide), a2, k⟩⟩
    · have := X.2
      have e : (fun i => up3 (up3 c 6 0 1 (nI f)) 10 0 5 (c 10 0 5 + 1) 15 i 2) = fun i => c 15 i 2 := funext fun i => by simp [up3]
      rw [e] at this
      exact this
theorem na_of {i : Nat} (hI : IX c r mm ns fi u rem e) (hi : i < 10) : ∃ na, na ≤ 8 ∧ c 11 i 4 = nI na ∧ mm 34 i = nI na ∧ ∀ j, j < na → ActOk (c 12 i j) (c 13 i j) (c 14 i j) ∧ mm 35 (8 * i + j) = c 12 i j ∧ mm 36 (8 * i + j) = c 13 i j ∧ mm 37 (8 * i + j) = c 14 i j := by
  obtain ⟨na, b1, b2, b3, b4, b5⟩ := hI.1.2.2.1.2.1 i hi
  exact ⟨na, b1, b2, b3, b5⟩
theorem take_idle (hI : IX c r mm ns ns u rem 4) : Cv (V_X7_takeShare w) (c, r) (c, r) ∧ Mv (T_take (nI w)) mm mm := by
  obtain ⟨l1, l2, l3, l4, l5, _⟩ := hI.2.1
  refine ⟨fun mm K k => br_f ?_ ⟨fun _ => k, fun a z => by cases z⟩, fun C K k => br_t ?_ k⟩
  · show ¬ c 6 0 1 < c 6 0 2
    rw [l2, l3, i_lt]; omega
  · show mm 22 19 ≤ mm 22 18
    rw [l4, l5, i_le]; omega
theorem take_sim (hI : IX c r mm ns fi u rem 4) (hw4 : w < 4) (hr : r 0 w = none) (hh : c 15 w 2 = 1) (hf : fi < ns) :
    ∃ c' r' mm' u' rem', Cv (V_X7_takeShare w) (c, r) (c', r') ∧ Mv (T_take (nI w)) mm mm' ∧ IX c' r' mm' ns (fi + 1) u' rem' 4 ∧ (∀ v, v ≠ w → rem' v = rem v) ∧ rem' w ≤ 8 ∧ (∀ i, c' 15 i 2 = c 15 i 2) ∧ c' 8 = c 8 ∧ (∀ i, c' 11 i 4 = c 11 i 4) := by
  obtain ⟨l1, l2, l3, l4, l5, l6, _⟩ := hI.2.1
  obtain ⟨s, p1, p2, p3, p4, p5⟩ := l6 fi (Nat.le_refl _) hf
  have hns : ns ≤ 10 := hI.1.2.2.1.1
  have hs10 : s < 10 := by omega
  obtain ⟨na, n1, n2, n3, _⟩ := na_of hI hs10
  have a4 : (nI w).toNatClampNeg = w := nI_cl (by omega)
  have a2 : vp_in (nI w) 4 := vin hw4 (by decide)
  have a5 : (nI s).toNatClampNeg = s := nI_cl (by omega)
  -- the states
  have X1 := IX_take (c' := up3 (up3 c 6 0 1 (nI (fi + 1))) 10 0 4 (c 10 0 4 + 1)) (mm' := up2 (up2 (up2 mm 22 18 (nI (200 + (fi + 1)))) 52 w (nI s)) 22 32 (mm 22 32 + 1)) hI hw4 hr hh hf p2
    (fun k i j q1 q2 => by unfold up3; rw [if_neg q2, if_neg q1]) (by simp [up3]) (by simp [up3])
    (fun k j q1 q2 => by unfold up2; rw [if_neg (by omega), if_neg (by omega), if_neg (by omega)]) (by simp [up2]) (by simp [up2]) (by simp [up2]) na
  have hrw : upr r 0 w (some s) 0 w = some s := by simp [upr]
  have X2 := IX_ben (c' := cB (up3 (up3 c 6 0 1 (nI (fi + 1))) 10 0 4 (c 10 0 4 + 1)) w) (mm' := mB (up2 (up2 (up2 mm 22 18 (nI (200 + (fi + 1)))) 52 w (nI s)) 22 32 (mm 22 32 + 1)) s) X1 hw4 hrw
    (fun k i j q => by
      generalize up3 (up3 c 6 0 1 (nI (fi + 1))) 10 0 4 (c 10 0 4 + 1) = cc
      unfold cB up3
      rw [if_neg (by omega), if_neg (by omega), if_neg (by omega), if_neg (by omega), if_neg (by omega)])
    (fun k j q => by
      generalize up2 (up2 (up2 mm 22 18 (nI (200 + (fi + 1)))) 52 w (nI s)) 22 32 (mm 22 32 + 1) = mmm
      unfold mB up2
      rw [if_neg (by omega), if_neg (by omega), if_neg (by omega), if_neg (by omega), if_neg (by omega), if_neg (by omega), if_neg (by omega), if_neg (by omega), if_neg (by omega)])
  have hcB : cB (up3 (up3 c 6 0 1 (nI (fi + 1))) 10 0 4 (c 10 0 4 + 1)) w 11 s 4 = nI na := by rw [← n2]; simp [cB, up3]
  have hmB : mB (up2 (up2 (up2 mm 22 18 (nI (200 + (fi + 1)))) 52 w (nI s)) 22 32 (mm 22 32 + 1)) s 34 s = nI na := by rw [← n3]; simp [mB, up2]
  have hC : ∀ mm K, ((¬ nI na = 0 → K ((cB (up3 (up3 c 6 0 1 (nI (fi + 1))) 10 0 4 (c 10 0 4 + 1)) w, upr r 0 w (some s)), mm)) ∧ (nI na = 0 → V_X7_finish w s (nI 0) ((cB (up3 (up3 c 6 0 1 (nI (fi + 1))) 10 0 4 (c 10 0 4 + 1)) w, upr r 0 w (some s)), mm) K)) → V_X7_takeShare w ((c, r), mm) K := by
    intro mm K k
    refine br_t (show c 6 0 1 < c 6 0 2 by rw [l2, l3]; exact (nI_ltL (by omega) (by omega)).mpr hf) ?_
    intro m1 e1
    have u0 : up3 c 6 0 1 (c 6 0 1 + 1) = up3 c 6 0 1 (nI (fi + 1)) := by rw [l2, nI_1]
    simp only [u0] at e1
    subst e1
    have u1 : up3 c 6 0 1 (nI (fi + 1)) 6 0 1 - 1 = nI fi := by rw [up3_self, nI_pred]
    have u2 : (nI fi).toNatClampNeg = fi := nI_cl (by omega)
    simp only [u1, u2]
    refine ⟨vin (by omega) (by decide), fun z => ?_, fun a z => ?_⟩
    · rw [p2] at z; cases z
    · have : s = a := Option.some.inj (p2.symm.trans z)
      subst this
      refine ⟨hs10, fun z => (by cases z), fun a z => ?_⟩
      have : s = a := Option.some.inj z
      subst this
      refine ⟨hs10, fun m4 e4 => ?_⟩
      have u3 : up3 c 6 0 1 (nI (fi + 1)) 10 0 4 = c 10 0 4 := by simp [up3]
      simp only [u3] at e4
      subst e4
      refine cBegin ?_
      simp only [hcB]
      exact k
  have hM : ∀ C K, ((¬ nI na = 0 → K (C, mB (up2 (up2 (up2 mm 22 18 (nI (200 + (fi + 1)))) 52 w (nI s)) 22 32 (mm 22 32 + 1)) s)) ∧ (nI na = 0 → V_X8_done (nI w) (nI s) (C, mB (up2 (up2 (up2 mm 22 18 (nI (200 + (fi + 1)))) 52 w (nI s)) 22 32 (mm 22 32 + 1)) s) K)) → T_take (nI w) (C, mm) K := by
    intro C K k
    refine br_f (show ¬ mm 22 19 ≤ mm 22 18 by rw [l4, l5]; exact fun g => by have := (nI_leL (by omega) (by omega)).mp g; omega) ?_
    have u1 : (nI (200 + fi)).toNatClampNeg = 200 + fi := nI_cl (by omega)
    have u2 : up2 mm 22 18 (nI (200 + fi) + 1) = up2 mm 22 18 (nI (200 + (fi + 1))) := by rw [nI_1]; rfl
    have u3 : up2 (up2 mm 22 18 (nI (200 + (fi + 1)))) 52 w (nI s) 22 32 = mm 22 32 := by simp [up2]
    simp only [forall_eq, l4, u1, p3, a4, u2, u3]
    refine ⟨vin (by omega) (by decide), a2, mBegin hs10 ?_⟩
    simp only [a5, hmB]
    exact ⟨vin hs10 (by decide), k⟩
  obtain ⟨hR, hS⟩ := Hold_begin (c := up3 (up3 c 6 0 1 (nI (fi + 1))) 10 0 4 (c 10 0 4 + 1)) (w := w) (s := s) (mm := up2 (up2 (up2 mm 22 18 (nI (200 + (fi + 1)))) 52 w (nI s)) 22 32 (mm 22 32 + 1))
  have g15 : ∀ i, cB (up3 (up3 c 6 0 1 (nI (fi + 1))) 10 0 4 (c 10 0 4 + 1)) w 15 i 2 = c 15 i 2 := fun i => by simp [cB, up3]
  have g8 : cB (up3 (up3 c 6 0 1 (nI (fi + 1))) 10 0 4 (c 10 0 4 + 1)) w 8 = c 8 := by funext i j; simp [cB, up3]
  have g11 : ∀ i, cB (up3 (up3 c 6 0 1 (nI (fi + 1))) 10 0 4 (c 10 0 4 + 1)) w 11 i 4 = c 11 i 4 := fun i => by simp [cB, up3]
  have m44 : mB (up2 (up2 (up2 mm 22 18 (nI (200 + (fi + 1)))) 52 w (nI s)) 22 32 (mm 22 32 + 1)) s 44 s = 0 := by simp [mB, up2]
  by_cases h0 : na = 0
  · subst h0
    obtain ⟨c', mm', u', _, q1, q2, q3, q4, q5, q6⟩ := fin_sim (e := 0) X2 hw4 hrw (by decide) m44 (fun _ => ⟨0, hS⟩)
    refine ⟨c', _, mm', u', _, fun mm K k => hC mm K (nr_f rfl (q1 mm K k)), fun C K k => hM C K (nr_f rfl (q2 C K k)), q3, fun v hv => by simp [hv], by simp, fun i => by rw [q4]; exact g15 i, by rw [q5]; exact g8, fun i => (q6 i).trans (g11 i)⟩
  · have hne : ¬ nI na = 0 := fun g => h0 ((nI_eqL (b := 0) (by omega) (by omega)).mp g)
    have X3 := IX_hold X2 hw4 hrw ⟨0, na, by simp, by simp; omega, n1, hcB, by simp [cB, up3]; rfl, by simp [mB, up2]; rfl, m44, hR, 0, hS⟩
    exact ⟨_, _, _, u, _, fun mm K k => hC mm K (nr_t hne k), fun C K k => hM C K (nr_t hne k), X3, fun v hv => by simp [hv], by simp; exact n1, g15, g8, g11⟩
theorem work_sim (hI : IX c r mm ns fi u rem 4) (hw4 : w < 4) (hr : r 0 w = some s) :
    ∃ c' r' mm' u' rem', Cv (V_X7_doNextAct w s) (c, r) (c', r') ∧ Mv (T_act (nI w)) mm mm' ∧ IX c' r' mm' ns fi u' rem' 4 ∧ (∀ v, v ≠ w → rem' v = rem v) ∧ rem' w < rem w ∧ (∀ i, c' 15 i 2 = c 15 i 2) ∧ c' 8 = c 8 ∧ (∀ i, c' 11 i 4 = c 11 i 4) := by
  obtain ⟨b1, b2, b3, b4, b5⟩ := IX_at hI hw4 hr
  have hns : ns ≤ 10 := hI.1.2.2.1.1
  have hs10 : s < 10 := by omega
  obtain ⟨k, na, t1, t2, t3, t4, t5, t6, t7, t8, h, t9⟩ := b5 (by omega)
  obtain ⟨na', n1, n2, n3, n4⟩ := na_of hI hs10
  have : na = na' := (nI_eqL (by omega) (by omega)).mp (t4.symm.trans n2)
  subst this
  obtain ⟨⟨kk, o1, o2, o3⟩, o4, o5, o6⟩ := n4 k (by omega)
  have a4 : (nI w).toNatClampNeg = w := nI_cl (by omega)
  have a2 : vp_in (nI w) 4 := vin hw4 (by decide)
  have a5 : (nI s).toNatClampNeg = s := nI_cl (by omega)
  have a6 : vp_in (nI s) 10 := vin hs10 (by decide)
  have a7 : (nI k).toNatClampNeg = k := nI_cl (by omega)
  have a8 : vp_in (nI k) 8 := vin (by omega) (by decide)
  obtain ⟨e, c1, mm1, q1, q2, q3, q4, q5, q6⟩ := act_sim (a := c 13 s k) (b := c 14 s k) (r := r) o1 o3 hs10 (by omega) (o4.trans o2) o5 o6 hI.1.2.2.2.1 t9 t8
  rw [← o2] at q1
  have v1 : c1 15 w 5 = nI k := (q4 _ _ _ (by omega)).trans t5
  have v2 : c1 11 s 4 = nI na := (q4 _ _ _ (by omega)).trans t4
  have v3 : mm1 38 s = nI k := (q5 _ _ (by omega)).trans t6
  have v4 : mm1 34 s = nI na := (q5 _ _ (by omega)).trans n3
  have X1 := IX_ex hI hr (na - (k + 1))
  have X2 := IX_ben (c' := up3 c1 15 w 5 (nI (k + 1))) (mm' := up2 (up2 mm1 44 s (nI e)) 38 s (nI (k + 1))) X1 hw4 hr
    (fun k i j q => by unfold up3; rw [if_neg (by omega)]; exact q4 _ _ _ (by omega))
    (fun k j q => by unfold up2; rw [if_neg (by omega), if_neg (by omega)]; exact q5 _ _ (by omega))
  have hC : ∀ mm K, ((¬ nI e = 0 → V_X7_finish w s (nI e) ((up3 c1 15 w 5 (nI (k + 1)), r), mm) K) ∧ (nI e = 0 → (nI (k + 1) < nI na → K ((up3 c1 15 w 5 (nI (k + 1)), r), mm)) ∧ (¬ nI (k + 1) < nI na → V_X7_finish w s (nI e) ((up3 c1 15 w 5 (nI (k + 1)), r), mm) K))) → V_X7_doNextAct w s ((c, r), mm) K := by
    intro mm K kx
    refine br_f (show ¬ c 15 w 5 < 0 by rw [t5]; exact nlt0 (by omega)) (br_t (show c 15 w 5 < c 11 s 4 by rw [t5, t4]; exact (nI_ltL (by omega) (by omega)).mpr (by omega)) ?_)
    simp only [t5, a7, nI_1]
    refine ⟨a8, a8, a8, q1 mm _ ?_⟩
    intro m3 e3
    subst e3
    have u1 : up3 c1 15 w 5 (nI (k + 1)) 15 w 5 = nI (k + 1) := up3_self
    have u2 : up3 c1 15 w 5 (nI (k + 1)) 11 s 4 = nI na := by rw [← v2]; simp [up3]
    simp only [u1, u2]
    exact kx
  have hM : ∀ C K, ((0 < nI e → V_X8_done (nI w) (nI s) (C, up2 (up2 mm1 44 s (nI e)) 38 s (nI (k + 1))) K) ∧ (¬ 0 < nI e → (¬ nI (k + 1) = nI na → K (C, up2 (up2 mm1 44 s (nI e)) 38 s (nI (k + 1)))) ∧ (nI (k + 1) = nI na → V_X8_done (nI w) (nI s) (C, up2 (up2 mm1 44 s (nI e)) 38 s (nI (k + 1))) K))) → T_act (nI w) (C, mm) K := by
    intro C K kx
    unfold T_act
    simp only [a4, b2, a5, t6]
    refine ⟨a2, a6, q2 C _ ⟨a6, fun m10 e10 => ⟨a6, a6, fun m11 e11 => ?_⟩⟩⟩
    subst e10
    have u0 : up2 mm1 44 s (nI e) 38 s + 1 = nI (k + 1) := by
      have : up2 mm1 44 s (nI e) 38 s = mm1 38 s := by simp [up2]
      rw [this, v3, nI_1]
    simp only [u0] at e11
    subst e11
    have u1 : up2 (up2 mm1 44 s (nI e)) 38 s (nI (k + 1)) 44 s = nI e := by simp [up2]
    have u2 : up2 (up2 mm1 44 s (nI e)) 38 s (nI (k + 1)) 38 s = nI (k + 1) := by simp [up2]
    have u3 : up2 (up2 mm1 44 s (nI e)) 38 s (nI (k + 1)) 34 s = nI na := by rw [← v4]; simp [up2]
    simp only [u1, u2, u3]
    exact ⟨a6, kx.1, fun q => ⟨a6, a6, kx.2 q⟩⟩
  have g15 : ∀ i, up3 c1 15 w 5 (nI (k + 1)) 15 i 2 = c 15 i 2 := fun i => by
    rw [show up3 c1 15 w 5 (nI (k + 1)) 15 i 2 = c1 15 i 2 by simp [up3]]; exact q4 _ _ _ (by omega)
  have g8 : up3 c1 15 w 5 (nI (k + 1)) 8 = c 8 := by
    funext i j
    rw [show up3 c1 15 w 5 (nI (k + 1)) 8 i j = c1 8 i j by simp [up3]]; exact q4 _ _ _ (by omega)
  have g11 : ∀ i, up3 c1 15 w 5 (nI (k + 1)) 11 i 4 = c 11 i 4 := fun i => by
    rw [show up3 c1 15 w 5 (nI (k + 1)) 11 i 4 = c1 11 i 4 by simp [up3]]; exact q4 _ _ _ (by omega)
  have hx3 : ∀ h', StR c1 mm1 w s h' → StR (up3 c1 15 w 5 (nI (k + 1))) (up2 (up2 mm1 44 s (nI e)) 38 s (nI (k + 1))) w s h' := fun h' hS =>
    St_fr hS (fun k j _ _ => by unfold up3; rw [if_neg (by omega)]) (by simp [up2]) (fun k j _ _ _ => by unfold up2; rw [if_neg (by omega), if_neg (by omega)])
  have hx4 : RowR c1 mm1 w s → RowR (up3 c1 15 w 5 (nI (k + 1))) (up2 (up2 mm1 44 s (nI e)) 38 s (nI (k + 1))) w s := fun hS =>
    Row_fr hS (fun k j _ _ => by unfold up3; rw [if_neg (by omega)]) (fun k j _ _ _ => by unfold up2; rw [if_neg (by omega), if_neg (by omega)])
  have hfin : (¬ e = 0 ∨ k + 1 = na) → ∃ c' r' mm' u' rem', Cv (V_X7_doNextAct w s) (c, r) (c', r') ∧ Mv (T_act (nI w)) mm mm' ∧ IX c' r' mm' ns fi u' rem' 4 ∧ (∀ v, v ≠ w → rem' v = rem v) ∧ rem' w < rem w ∧ (∀ i, c' 15 i 2 = c 15 i 2) ∧ c' 8 = c 8 ∧ (∀ i, c' 11 i 4 = c 11 i 4) := by
    intro hcase
    obtain ⟨c', mm', u', _, z1, z2, z3, z4, z5, z6⟩ := fin_sim (e := e) X2 hw4 hr q3 (by simp [up2]) (fun z => by
      obtain ⟨h', hS'⟩ := (q6 z).2
      exact ⟨h', hx3 h' hS'⟩)
    refine ⟨c', _, mm', u', _, fun mm K kx => hC mm K ⟨fun _ => z1 mm K kx, fun g => ⟨fun g2 => ?_, fun _ => z1 mm K kx⟩⟩, fun C K kx => hM C K ⟨fun _ => z2 C K kx, fun g => ⟨fun g2 => ?_, fun _ => z2 C K kx⟩⟩, z3, fun v hv => by simp [hv], ?_, fun i => by rw [z4]; exact g15 i, by rw [z5]; exact g8, fun i => (z6 i).trans (g11 i)⟩
    · have e0 : e = 0 := (nI_eqL (b := 0) (by omega) (by omega)).mp g
      have := (nI_ltL (by omega) (by omega)).mp g2
      omega
    · have e0 : e = 0 := by
        rcases Nat.eq_zero_or_pos e with z | z
        · exact z
        · exact absurd ((nI_ltL (a := 0) (by omega) (by omega)).mpr z) g
      rcases hcase with z | z
      · exact absurd e0 z
      · exact absurd (by rw [z]) g2
    · simp; omega
  by_cases h0 : e = 0
  · by_cases hl : k + 1 = na
    · exact hfin (Or.inr hl)
    · obtain ⟨g1, h', g2⟩ := q6 h0
      have X3 := IX_hold X2 hw4 hr ⟨k + 1, na, by simp; omega, by simp; omega, n1, by rw [← v2]; simp [up3], up3_self, by simp [up2], by simp [up2, h0]; rfl, hx4 g1, h', hx3 h' g2⟩
      subst h0
      refine ⟨_, r, _, u, _, fun mm K kx => hC mm K (nr_f rfl (br_t ((nI_ltL (by omega) (by omega)).mpr (by omega)) kx)), fun C K kx => hM C K (br_f (by decide) (nr_t (fun g => hl ((nI_eqL (by omega) (by omega)).mp g)) kx)), X3, fun v hv => by simp [hv], by simp; omega, g15, g8, g11⟩
  · exact hfin (Or.inl h0)
end
