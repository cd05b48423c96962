/-! THE BENCH: a stack of places, and a row, on both sides -/
def nE (x : Int32) : Int32 := if -1000000 ≤ x then (if x ≤ 1000000 then x else 1000000) else -1000000
theorem cNear {x : Int32} {m : MW} {K : Int32 → MW → Prop} (k : K (nE x) m) : V_X7_nearestEnd x m K := by
  unfold nE at k
  refine ⟨fun h1 => ⟨fun h2 => ?_, fun h2 => ?_⟩, fun h1 => ?_⟩
  · rw [if_pos h1, if_pos h2] at k; exact k
  · rw [if_pos h1, if_neg h2] at k; exact k
  · rw [if_neg h1] at k; exact k
theorem l_M : (-1000000 : Int64).toInt = -1000000 := by decide
theorem l_P : (1000000 : Int64).toInt = 1000000 := by decide
theorem lg_le0 {x y : Int64} : lg_cmp x y ≤ 0 ↔ x.toInt ≤ y.toInt := by
  unfold lg_cmp
  by_cases h : x > y
  · rw [if_pos h]
    have := Int64.lt_iff_toInt_lt.mp h
    exact ⟨fun q => absurd q (by decide), fun q => by omega⟩
  · rw [if_neg h]
    have h' : ¬ y.toInt < x.toInt := fun q => h (Int64.lt_iff_toInt_lt.mpr q)
    refine ⟨fun _ => by omega, fun _ => ?_⟩
    split <;> decide
theorem lg_ge0 {x y : Int64} : 0 ≤ lg_cmp x y ↔ y.toInt ≤ x.toInt := by
  unfold lg_cmp
  by_cases h : x > y
  · rw [if_pos h]
    have := Int64.lt_iff_toInt_lt.mp h
    exact ⟨fun q => by omega, fun q => by decide⟩
  · rw [if_neg h]
    have h' : ¬ y.toInt < x.toInt := fun q => h (Int64.lt_iff_toInt_lt.mpr q)
    by_cases e : x = y
    · rw [if_pos e, e]; exact ⟨fun _ => by omega, fun _ => by decide⟩
    · rw [if_neg e]
      refine ⟨fun q => absurd q (by decide), fun q => ?_⟩
      exact absurd (Int64.toInt_inj.mp (by omega)) e
theorem mNear {X : Int64} {x : Int32} (h : X.toInt = x.toInt) {m : MW} {K : Int32 → MW → Prop} (k : K (nE x) m) : V_X8_nearest X m K := by
  unfold nE at k
  have a1 : 0 ≤ lg_cmp X (-1000000) ↔ -1000000 ≤ x := by rw [lg_ge0, l_M, i_le, tM, h]
  have a2 : lg_cmp X 1000000 ≤ 0 ↔ x ≤ 1000000 := by rw [lg_le0, l_P, i_le, tP, h]
  refine ⟨fun h1 => ⟨fun h2 => ?_, fun h2 => ?_⟩, fun h1 => ?_⟩
  · rw [if_pos (a1.mp h1), if_pos (a2.mp h2)] at k
    have : Int64.toInt32 X = x := by
      apply Int32.toInt_inj.mp
      rw [Int64.toInt_toInt32, h]
      have q1 := Int32.toInt_lt x
      have q2 := Int32.le_toInt x
      exact Int.bmod_eq_of_le_mul_two (by omega) (by omega)
    rw [this]; exact k
  · rw [if_pos (a1.mp h1), if_neg (fun q => h2 (a2.mpr q))] at k; exact k
  · rw [if_neg (fun q => h1 (a1.mpr q))] at k; exact k
theorem nE_in (x : Int32) : inE (nE x) := by
  unfold nE
  split
  · split
    · exact ⟨by assumption, by assumption⟩
    · exact ⟨by decide, by decide⟩
  · exact ⟨by decide, by decide⟩
theorem nE_id {x : Int32} (h : inE x) : nE x = x := by unfold nE; rw [if_pos h.1, if_pos h.2]
theorem nE_t (x : Int32) : (nE x).toInt = if -1000000 ≤ x.toInt then (if x.toInt ≤ 1000000 then x.toInt else 1000000) else -1000000 := by
  have e1 := @i_le (-1000000) x
  have e2 := @i_le x 1000000
  rw [tM] at e1
  rw [tP] at e2
  unfold nE
  by_cases h1 : -1000000 ≤ x
  · rw [if_pos h1, if_pos (e1.mp h1)]
    by_cases h2 : x ≤ 1000000
    · rw [if_pos h2, if_pos (e2.mp h2)]
    · rw [if_neg h2, if_neg (fun q => h2 (e2.mpr q))]; rfl
  · rw [if_neg h1, if_neg (fun q => h1 (e1.mpr q))]; rfl
theorem nE_mono {x y : Int32} (h : x ≤ y) : nE x ≤ nE y := by
  have hx := i_le.mp h
  rw [i_le, nE_t, nE_t]
  split <;> split <;> (try split) <;> (try split) <;> omega
theorem t_add {a b : Int32} (ha : inE a) (hb : inE b) : (a + b).toInt = a.toInt + b.toInt := by
  have := inE_t ha
  have := inE_t hb
  rw [Int32.toInt_add]
  exact Int.bmod_eq_of_le_mul_two (by omega) (by omega)
theorem t_sub {a b : Int32} (ha : inE a) (hb : inE b) : (a - b).toInt = a.toInt - b.toInt := by
  have := inE_t ha
  have := inE_t hb
  rw [Int32.toInt_sub]
  exact Int.bmod_eq_of_le_mul_two (by omega) (by omega)
theorem tl_add {a b : Int32} (ha : inE a) (hb : inE b) : (Int32.toInt64 a + Int32.toInt64 b).toInt = (a + b).toInt := by
  have := inE_t ha
  have := inE_t hb
  rw [Int64.toInt_add, Int32.toInt_toInt64, Int32.toInt_toInt64, t_add ha hb]
  exact Int.bmod_eq_of_le_mul_two (by omega) (by omega)
theorem tl_sub {a b : Int32} (ha : inE a) (hb : inE b) : (Int32.toInt64 a - Int32.toInt64 b).toInt = (a - b).toInt := by
  have := inE_t ha
  have := inE_t hb
  rw [Int64.toInt_sub, Int32.toInt_toInt64, Int32.toInt_toInt64, t_sub ha hb]
  exact Int.bmod_eq_of_le_mul_two (by omega) (by omega)
theorem tdiv_in {a b : Int} (h : -1000000 ≤ a ∧ a ≤ 1000000) : -1000000 ≤ a.tdiv b ∧ a.tdiv b ≤ 1000000 := by
  have := Int.natAbs_tdiv_le_natAbs a b
  omega
theorem t_div {a b : Int32} (ha : inE a) : (a / b).toInt = a.toInt.tdiv b.toInt := by
  have := tdiv_in (b := b.toInt) (inE_t ha)
  rw [Int32.toInt_div]
  exact Int.bmod_eq_of_le_mul_two (by omega) (by omega)
theorem in_div {a b : Int32} (ha : inE a) : inE (a / b) := inE_of (by rw [t_div ha]; exact tdiv_in (inE_t ha))
theorem tl_div {a b : Int32} (ha : inE a) : (Int32.toInt64 a / Int32.toInt64 b).toInt = (a / b).toInt := by
  have := tdiv_in (b := b.toInt) (inE_t ha)
  rw [Int64.toInt_div, Int32.toInt_toInt64, Int32.toInt_toInt64, t_div ha]
  exact Int.bmod_eq_of_le_mul_two (by omega) (by omega)
theorem l_ne {a : Int32} (h : ¬ a = 0) : ¬ Int32.toInt64 a = 0 := by
  intro q
  apply h
  apply Int32.toInt_inj.mp
  rw [← Int32.toInt_toInt64, q]
  rfl
theorem Rg_l {a b : Int32} (h : Rg a b) : inE a := by
  refine ⟨h.2.1, ?_⟩
  have h1 := i_le.mp h.1
  have h2 := i_le.mp h.2.2
  exact i_le.mpr (by omega)
theorem Rg_h {a b : Int32} (h : Rg a b) : inE b := by
  refine ⟨?_, h.2.2⟩
  have h1 := i_le.mp h.1
  have h2 := i_le.mp h.2.1
  exact i_le.mpr (by omega)
theorem Rg_of {a b : Int32} (h : a ≤ b) (ha : inE a) (hb : inE b) : Rg a b := ⟨h, ha.1, hb.2⟩
def cput (c : Nat → Nat → Nat → Int32) (w h : Nat) (x y : Int32) : Nat → Nat → Nat → Int32 := up3 (up3 (up3 c 17 w h x) 18 w h y) 16 w 2 (nI (h + 1))
def mput (mm : MM) (s h : Nat) (x y : Int32) : MM := up2 (up2 (up2 mm 40 (3 * s + h) x) 41 (3 * s + h) y) 39 s (nI (h + 1))
section
variable {c : Nat → Nat → Nat → Int32} {r : Nat → Nat → Option Nat} {mm : MM} {w s h q : Nat} {x y : Int32} {K : Int32 → MW → Prop} {C : MC}
theorem cPush (hh : c 16 w 2 = nI h) (h3 : h < 3) (k : K 0 ((cput c w h x y, r), mm)) : V_X0_push w x y ((c, r), mm) K := by
  have a1 : nI h < 3 := (nI_ltL (b := 3) (by omega) (by omega)).mpr h3
  have a2 : vp_in (nI h) 3 := vin h3 (by decide)
  have a3 : (nI h).toNatClampNeg = h := nI_cl (by omega)
  unfold V_X0_push
  simp only [forall_eq, hh, a3, up3_kn (show (16 : Nat) ≠ 17 by decide), up3_kn (show (16 : Nat) ≠ 18 by decide), nI_1]
  exact br_t a1 ⟨a2, a2, k⟩
theorem cPush3 (hh : c 16 w 2 = nI 3) (k : K 2 ((c, r), mm)) : V_X0_push w x y ((c, r), mm) K := br_f (show ¬ c 16 w 2 < 3 by rw [hh]; decide) k
theorem mPush (hs : s < 10) (hh : mm 39 s = nI h) (h3 : h < 3) (k : K 0 (C, mput mm s h x y)) : V_X8_push (nI s) x y (C, mm) K := by
  have a1 : ¬ nI h = 3 := fun e => by have := (nI_eqL (b := 3) (by omega) (by omega)).mp e; omega
  have a2 : vp_in (nI s) 10 := vin hs (by decide)
  have a3 : (nI s).toNatClampNeg = s := nI_cl (by omega)
  have a4 : (nI (3 * s + h)).toNatClampNeg = 3 * s + h := nI_cl (by omega)
  have a5 : vp_in (nI (3 * s + h)) 30 := vin (by omega) (by decide)
  unfold V_X8_push
  simp only [forall_eq, hh, a3, a4, ix3, up2_ne (show (39 : Nat) ≠ 40 by decide), up2_ne (show (39 : Nat) ≠ 41 by decide), nI_1]
  exact ⟨a2, nr_t a1 ⟨a2, a5, a2, a5, a2, a2, k⟩⟩
theorem mPush3 (hs : s < 10) (hh : mm 39 s = nI 3) (k : K 2 (C, mm)) : V_X8_push (nI s) x y (C, mm) K := by
  have a3 : (nI s).toNatClampNeg = s := nI_cl (by omega)
  refine ⟨vin hs (by decide), nr_f ?_ k⟩
  rw [a3]; exact hh
end
def StR (c : Nat → Nat → Nat → Int32) (mm : MM) (w s h : Nat) : Prop := h ≤ 3 ∧ c 16 w 2 = nI h ∧ mm 39 s = nI h ∧ ∀ j, j < h → Rg (c 17 w j) (c 18 w j) ∧ mm 40 (3 * s + j) = c 17 w j ∧ mm 41 (3 * s + j) = c 18 w j
def RowR (c : Nat → Nat → Nat → Int32) (mm : MM) (w s : Nat) : Prop := ∀ j, j < 3 → (c 19 w j = 1 ∧ Rg (c 20 w j) (c 21 w j) ∧ mm 42 (3 * s + j) = c 20 w j ∧ mm 43 (3 * s + j) = c 21 w j) ∨ (c 19 w j = 0 ∧ mm 43 (3 * s + j) < mm 42 (3 * s + j))
/-- nothing but the bench of worker w is touched -/
def FrC (w : Nat) (c c' : Nat → Nat → Nat → Int32) : Prop := ∀ k i j, (k < 16 ∨ 21 < k ∨ i ≠ w) → c' k i j = c k i j
/-- nothing but stack and row of share s is touched -/
def FrM (s : Nat) (mm mm' : MM) : Prop := ∀ k j, (k < 39 ∨ 43 < k ∨ (k = 39 ∧ j ≠ s) ∨ (40 ≤ k ∧ (j < 3 * s ∨ 3 * s + 3 ≤ j))) → mm' k j = mm k j
theorem FrC_r (w : Nat) (c : Nat → Nat → Nat → Int32) : FrC w c c := fun _ _ _ _ => rfl
theorem FrM_r (s : Nat) (mm : MM) : FrM s mm mm := fun _ _ _ => rfl
theorem FrC_t {w : Nat} {a b c : Nat → Nat → Nat → Int32} (h : FrC w a b) (h' : FrC w b c) : FrC w a c := fun k i j q => (h' k i j q).trans (h k i j q)
theorem FrM_t {s : Nat} {a b c : MM} (h : FrM s a b) (h' : FrM s b c) : FrM s a c := fun k j q => (h' k j q).trans (h k j q)
theorem FrC_u {w : Nat} (c : Nat → Nat → Nat → Int32) (k j : Nat) (v : Int32) (h : 16 ≤ k) (h' : k ≤ 21) : FrC w c (up3 c k w j v) := by
  intro k' i' j' q
  unfold up3
  rw [if_neg (by omega)]
theorem FrM_u {s : Nat} (mm : MM) (k j : Nat) (v : Int32) (h : (k = 39 ∧ j = s) ∨ (40 ≤ k ∧ k ≤ 43 ∧ 3 * s ≤ j ∧ j < 3 * s + 3)) : FrM s mm (up2 mm k j v) := by
  intro k' j' q
  unfold up2
  rw [if_neg (by omega)]
theorem FrC_put {c : Nat → Nat → Nat → Int32} {w h : Nat} {x y : Int32} : FrC w c (cput c w h x y) :=
  FrC_t (FrC_t (FrC_u c 17 h x (by decide) (by decide)) (FrC_u _ 18 h y (by decide) (by decide))) (FrC_u _ 16 2 _ (by decide) (by decide))
theorem FrM_put {mm : MM} {s h : Nat} (h3 : h < 3) {x y : Int32} : FrM s mm (mput mm s h x y) :=
  FrM_t (FrM_t (FrM_u mm 40 _ x (by omega)) (FrM_u _ 41 _ y (by omega))) (FrM_u _ 39 s _ (by omega))
theorem St_put {c : Nat → Nat → Nat → Int32} {mm : MM} {w s h : Nat} {x y : Int32} (hS : StR c mm w s h) (h3 : h < 3) (hr : Rg x y) : StR (cput c w h x y) (mput mm s h x y) w s (h + 1) := by
  obtain ⟨b1, b2, b3, b4⟩ := hS
  refine ⟨by omega, by simp [cput, up3], by simp [mput, up2], fun j hj => ?_⟩
  by_cases e : j = h
  · subst e
    simp only [cput, mput, up3, up2]
    simpa using hr
  · have := b4 j (by omega)
    simpa [cput, mput, up3, up2, e] using this
theorem Row_put {c : Nat → Nat → Nat → Int32} {mm : MM} {w s h : Nat} {x y : Int32} (hS : RowR c mm w s) : RowR (cput c w h x y) (mput mm s h x y) w s := by
  intro j hj
  simpa [cput, mput, up3, up2] using hS j hj
theorem St_pop {c : Nat → Nat → Nat → Int32} {mm : MM} {w s h q : Nat} (hS : StR c mm w s h) (hq : q ≤ h) : StR (up3 c 16 w 2 (nI q)) (up2 mm 39 s (nI q)) w s q := by
  obtain ⟨b1, b2, b3, b4⟩ := hS
  refine ⟨by omega, by simp [up3], by simp [up2], fun j hj => ?_⟩
  have := b4 j (by omega)
  simpa [up3, up2] using this
theorem Row_pop {c : Nat → Nat → Nat → Int32} {mm : MM} {w s : Nat} {x y : Int32} (hS : RowR c mm w s) : RowR (up3 c 16 w 2 x) (up2 mm 39 s y) w s := by
  intro j hj
  simpa [up3, up2] using hS j hj
/-- both do it, answer alike, and are alike afterwards unless it was refused -/
def Act2 (VC VM : MW → (Int32 → MW → Prop) → Prop) (c : Nat → Nat → Nat → Int32) (r : Nat → Nat → Option Nat) (mm : MM) (w s : Nat) : Prop :=
  ∃ e c' mm', Ci VC (c, r) (nI e) (c', r) ∧ Mi VM mm (nI e) mm' ∧ e ≤ 5 ∧ FrC w c c' ∧ FrM s mm mm' ∧ (e = 0 → RowR c' mm' w s ∧ ∃ h', StR c' mm' w s h')
theorem a2_no {VC VM : MW → (Int32 → MW → Prop) → Prop} {c : Nat → Nat → Nat → Int32} {r : Nat → Nat → Option Nat} {mm : MM} {w s : Nat} (e : Nat) (h0 : e ≠ 0) (h5 : e ≤ 5) (hC : Ci VC (c, r) (nI e) (c, r)) (hM : Mi VM mm (nI e) mm) : Act2 VC VM c r mm w s :=
  ⟨e, c, mm, hC, hM, h5, FrC_r _ _, FrM_r _ _, fun q => absurd q h0⟩
/-- a push on both sides ends an act: VC, VM come down to the pushes at c1, mm1 -/
theorem a2_push {VC VM : MW → (Int32 → MW → Prop) → Prop} {c c1 : Nat → Nat → Nat → Int32} {r : Nat → Nat → Option Nat} {mm mm1 : MM} {w s h : Nat} {x y : Int32} (hs : s < 10) (f1 : FrC w c c1) (f2 : FrM s mm mm1) (hS : StR c1 mm1 w s h) (hR : RowR c1 mm1 w s) (hr : Rg x y)
    (hC : ∀ mm K, V_X0_push w x y ((c1, r), mm) K → VC ((c, r), mm) K) (hM : ∀ C K, V_X8_push (nI s) x y (C, mm1) K → VM (C, mm) K) : Act2 VC VM c r mm w s := by
  by_cases h3 : h < 3
  · exact ⟨0, cput c1 w h x y, mput mm1 s h x y, fun mm K k => hC mm K (cPush hS.2.1 h3 k), fun C K k => hM C K (mPush hs hS.2.2.1 h3 k), by decide, FrC_t f1 FrC_put, FrM_t f2 (FrM_put h3), fun _ => ⟨Row_put hR, _, St_put hS h3 hr⟩⟩
  · have e : h = 3 := by have := hS.1; omega
    subst e
    exact ⟨2, c1, mm1, fun mm K k => hC mm K (cPush3 hS.2.1 k), fun C K k => hM C K (mPush3 hs hS.2.2.1 k), by decide, f1, f2, fun q => absurd q (by decide)⟩
theorem dA0 {w : Nat} {a b : Int32} {m : MW} {K : Int32 → MW → Prop} (k : (a ≤ b → V_X0_push w a b m K) ∧ (¬ a ≤ b → K 5 m)) : V_X0_doAct w (nI 0) a b m K := by
  unfold V_X0_doAct
  refine ⟨fun h => ?_, fun h => ?_, fun h => ?_, fun h => ?_, fun h => ?_, fun h => ?_, fun h => ?_, fun h => ?_, fun h => ?_, fun h => ?_⟩ <;> first | exact absurd h (by decide) | exact k
theorem dA1 {w : Nat} {a b : Int32} {m : MW} {K : Int32 → MW → Prop} (k : V_X0_pushFact w a m K) : V_X0_doAct w (nI 1) a b m K := by
  unfold V_X0_doAct
  refine ⟨fun h => ?_, fun h => ?_, fun h => ?_, fun h => ?_, fun h => ?_, fun h => ?_, fun h => ?_, fun h => ?_, fun h => ?_, fun h => ?_⟩ <;> first | exact absurd h (by decide) | exact k
theorem dA2 {w : Nat} {a b : Int32} {m : MW} {K : Int32 → MW → Prop} (k : V_X0_joinUpperTwo w (nI 2) m K) : V_X0_doAct w (nI 2) a b m K := by
  unfold V_X0_doAct
  refine ⟨fun h => ?_, fun h => ?_, fun h => ?_, fun h => ?_, fun h => ?_, fun h => ?_, fun h => ?_, fun h => ?_, fun h => ?_, fun h => ?_⟩ <;> first | exact absurd h (by decide) | exact k
theorem dA3 {w : Nat} {a b : Int32} {m : MW} {K : Int32 → MW → Prop} (k : V_X0_joinUpperTwo w (nI 3) m K) : V_X0_doAct w (nI 3) a b m K := by
  unfold V_X0_doAct
  refine ⟨fun h => ?_, fun h => ?_, fun h => ?_, fun h => ?_, fun h => ?_, fun h => ?_, fun h => ?_, fun h => ?_, fun h => ?_, fun h => ?_⟩ <;> first | exact absurd h (by decide) | exact k
theorem dA4 {w : Nat} {a b : Int32} {m : MW} {K : Int32 → MW → Prop} (k : V_X0_joinUpperTwo w (nI 4) m K) : V_X0_doAct w (nI 4) a b m K := by
  unfold V_X0_doAct
  refine ⟨fun h => ?_, fun h => ?_, fun h => ?_, fun h => ?_, fun h => ?_, fun h => ?_, fun h => ?_, fun h => ?_, fun h => ?_, fun h => ?_⟩ <;> first | exact absurd h (by decide) | exact k
theorem dA5 {w : Nat} {a b : Int32} {m : MW} {K : Int32 → MW → Prop} (k : V_X0_joinUpperTwo w (nI 5) m K) : V_X0_doAct w (nI 5) a b m K := by
  unfold V_X0_doAct
  refine ⟨fun h => ?_, fun h => ?_, fun h => ?_, fun h => ?_, fun h => ?_, fun h => ?_, fun h => ?_, fun h => ?_, fun h => ?_, fun h => ?_⟩ <;> first | exact absurd h (by decide) | exact k
theorem dA6 {w : Nat} {a b : Int32} {m : MW} {K : Int32 → MW → Prop} (k : V_X0_divideUpper w a m K) : V_X0_doAct w (nI 6) a b m K := by
  unfold V_X0_doAct
  refine ⟨fun h => ?_, fun h => ?_, fun h => ?_, fun h => ?_, fun h => ?_, fun h => ?_, fun h => ?_, fun h => ?_, fun h => ?_, fun h => ?_⟩ <;> first | exact absurd h (by decide) | exact k
theorem dA7 {w : Nat} {a b : Int32} {m : MW} {K : Int32 → MW → Prop} (k : V_X0_testPoint w m K) : V_X0_doAct w (nI 7) a b m K := by
  unfold V_X0_doAct
  refine ⟨fun h => ?_, fun h => ?_, fun h => ?_, fun h => ?_, fun h => ?_, fun h => ?_, fun h => ?_, fun h => ?_, fun h => ?_, fun h => ?_⟩ <;> first | exact absurd h (by decide) | exact k
theorem dA8 {w : Nat} {a b : Int32} {m : MW} {K : Int32 → MW → Prop} (k : V_X0_keepUpper w a m K) : V_X0_doAct w (nI 8) a b m K := by
  unfold V_X0_doAct
  refine ⟨fun h => ?_, fun h => ?_, fun h => ?_, fun h => ?_, fun h => ?_, fun h => ?_, fun h => ?_, fun h => ?_, fun h => ?_, fun h => ?_⟩ <;> first | exact absurd h (by decide) | exact k
theorem dA9 {w : Nat} {a b : Int32} {m : MW} {K : Int32 → MW → Prop} (k : V_X0_takeItem w a m K) : V_X0_doAct w (nI 9) a b m K := by
  unfold V_X0_doAct
  refine ⟨fun h => ?_, fun h => ?_, fun h => ?_, fun h => ?_, fun h => ?_, fun h => ?_, fun h => ?_, fun h => ?_, fun h => ?_, fun h => ?_⟩ <;> first | exact absurd h (by decide) | exact k
def mx (a b : Int32) : Int32 := if a < b then b else a
def mn (a b : Int32) : Int32 := if b < a then b else a
theorem mx_t (a b : Int32) : (mx a b).toInt = if a.toInt < b.toInt then b.toInt else a.toInt := by
  unfold mx
  by_cases h : a < b
  · rw [if_pos h, if_pos (i_lt.mp h)]
  · rw [if_neg h, if_neg (fun q => h (i_lt.mpr q))]
theorem mn_t (a b : Int32) : (mn a b).toInt = if b.toInt < a.toInt then b.toInt else a.toInt := by
  unfold mn
  by_cases h : b < a
  · rw [if_pos h, if_pos (i_lt.mp h)]
  · rw [if_neg h, if_neg (fun q => h (i_lt.mpr q))]
theorem mx_in {a b : Int32} (ha : inE a) (hb : inE b) : inE (mx a b) := by unfold mx; split <;> assumption
theorem mn_in {a b : Int32} (ha : inE a) (hb : inE b) : inE (mn a b) := by unfold mn; split <;> assumption
theorem mn_mx (a b : Int32) : mn a b ≤ mx a b := by
  rw [i_le, mn_t, mx_t]
  split <;> split <;> omega
theorem mx_le {a b : Int32} (h : a ≤ b) : mx a b = b := by
  apply Int32.toInt_inj.mp
  rw [mx_t]
  have := i_le.mp h
  split <;> omega
theorem mx_nle {a b : Int32} (h : ¬ a ≤ b) : mx a b = a := by
  apply Int32.toInt_inj.mp
  rw [mx_t]
  have := i_lt.mp (i_nle.mp h)
  split <;> omega
theorem mn_le {a b : Int32} (h : b ≤ a) : mn a b = b := by
  apply Int32.toInt_inj.mp
  rw [mn_t]
  have := i_le.mp h
  split <;> omega
theorem mn_nle {a b : Int32} (h : ¬ b ≤ a) : mn a b = a := by
  apply Int32.toInt_inj.mp
  rw [mn_t]
  have := i_lt.mp (i_nle.mp h)
  split <;> omega
section
variable {c : Nat → Nat → Nat → Int32} {r : Nat → Nat → Option Nat} {mm : MM} {w s h q : Nat} {x y : Int32} {K : Int32 → MW → Prop} {C : MC}
theorem s1 (q : Nat) : nI (q + 2) - 1 = nI (q + 1) := by rw [show (1 : Int32) = nI 1 from rfl, pk_sub (by omega)]; rfl
theorem s2 (q : Nat) : nI (q + 2) - 2 = nI q := by rw [show (2 : Int32) = nI 2 from rfl, pk_sub (by omega)]; rfl
-- the class
theorem cJ_lo (hh : c 16 w 2 = nI h) (h2 : h < 2) (k : K 2 ((c, r), mm)) : V_X0_joinUpperTwo w x ((c, r), mm) K := br_f (show ¬ 2 ≤ c 16 w 2 by rw [hh]; exact fun e => by have := (nI_leL (a := 2) (by omega) (by omega)).mp e; omega) k

theorem cJ2 (hh : c 16 w 2 = nI (q + 2)) (hq : q < 2) (k : V_X0_push w (nE (c 17 w q + c 17 w (q + 1))) (nE (c 18 w q + c 18 w (q + 1))) ((up3 c 16 w 2 (nI q), r), mm) K) : V_X0_joinUpperTwo w (nI 2) ((c, r), mm) K := by
  have a1 : (2 : Int32) ≤ nI (q + 2) := (nI_leL (a := 2) (by omega) (by omega)).mpr (by omega)
  have a2 : vp_in (nI q) 3 := vin (by omega) (by decide)
  have a3 : vp_in (nI (q + 1)) 3 := vin (by omega) (by decide)
  have a4 : (nI q).toNatClampNeg = q := nI_cl (by omega)
  have a5 : (nI (q + 1)).toNatClampNeg = q + 1 := nI_cl (by omega)
  unfold V_X0_joinUpperTwo
  simp only [forall_eq, hh, s1, s2, a4, a5, up3_kn (show (17 : Nat) ≠ 16 by decide), up3_kn (show (18 : Nat) ≠ 16 by decide)]
  refine br_t a1 ⟨fun h => ?_, fun h => ?_, fun h => ?_, fun h => ?_⟩ <;> first | exact absurd h (by decide) | skip
  refine ⟨a2, a3, cNear ⟨a2, a3, ?_⟩⟩
  simp only [up3_kn (show (18 : Nat) ≠ 16 by decide)]
  exact cNear k
theorem cJ3 (hh : c 16 w 2 = nI (q + 2)) (hq : q < 2) (k : V_X0_push w (nE (c 17 w q - c 18 w (q + 1))) (nE (c 18 w q - c 17 w (q + 1))) ((up3 c 16 w 2 (nI q), r), mm) K) : V_X0_joinUpperTwo w (nI 3) ((c, r), mm) K := by
  have a1 : (2 : Int32) ≤ nI (q + 2) := (nI_leL (a := 2) (by omega) (by omega)).mpr (by omega)
  have a2 : vp_in (nI q) 3 := vin (by omega) (by decide)
  have a3 : vp_in (nI (q + 1)) 3 := vin (by omega) (by decide)
  have a4 : (nI q).toNatClampNeg = q := nI_cl (by omega)
  have a5 : (nI (q + 1)).toNatClampNeg = q + 1 := nI_cl (by omega)
  unfold V_X0_joinUpperTwo
  simp only [forall_eq, hh, s1, s2, a4, a5, up3_kn (show (17 : Nat) ≠ 16 by decide), up3_kn (show (18 : Nat) ≠ 16 by decide)]
  refine br_t a1 ⟨fun h => ?_, fun h => ?_, fun h => ?_, fun h => ?_⟩ <;> first | exact absurd h (by decide) | skip
  refine ⟨a2, a3, cNear ⟨a2, a3, ?_⟩⟩
  simp only [up3_kn (show (18 : Nat) ≠ 16 by decide), up3_kn (show (17 : Nat) ≠ 16 by decide)]
  exact cNear k
theorem cJ4 (hh : c 16 w 2 = nI (q + 2)) (hq : q < 2) (k : (¬ c 18 w (q + 1) < c 17 w q ∧ c 17 w (q + 1) ≤ c 18 w q → V_X0_push w (mx (c 17 w q) (c 17 w (q + 1))) (mn (c 18 w q) (c 18 w (q + 1))) ((up3 c 16 w 2 (nI q), r), mm) K) ∧ (¬ (¬ c 18 w (q + 1) < c 17 w q ∧ c 17 w (q + 1) ≤ c 18 w q) → K 5 ((up3 c 16 w 2 (nI q), r), mm))) : V_X0_joinUpperTwo w (nI 4) ((c, r), mm) K := by
  have a1 : (2 : Int32) ≤ nI (q + 2) := (nI_leL (a := 2) (by omega) (by omega)).mpr (by omega)
  have a2 : vp_in (nI q) 3 := vin (by omega) (by decide)
  have a3 : vp_in (nI (q + 1)) 3 := vin (by omega) (by decide)
  have a4 : (nI q).toNatClampNeg = q := nI_cl (by omega)
  have a5 : (nI (q + 1)).toNatClampNeg = q + 1 := nI_cl (by omega)
  unfold V_X0_joinUpperTwo
  simp only [forall_eq, hh, s1, s2, a4, a5, up3_kn (show (17 : Nat) ≠ 16 by decide), up3_kn (show (18 : Nat) ≠ 16 by decide)]
  refine br_t a1 ⟨fun h => ?_, fun h => ?_, fun h => ?_, fun h => ?_⟩ <;> first | exact absurd h (by decide) | skip
  refine ⟨a2, a3, fun h1 => k.2 (fun h2 => h2.1 h1), fun h1 => ⟨a3, a2, fun h2 => ⟨a2, a3, a2, a3, k.1 ⟨h1, h2⟩⟩, fun h2 => k.2 (fun h3 => h2 h3.2)⟩⟩
theorem cJ5 (hh : c 16 w 2 = nI (q + 2)) (hq : q < 2) (k : V_X0_push w (mn (c 17 w q) (c 17 w (q + 1))) (mx (c 18 w q) (c 18 w (q + 1))) ((up3 c 16 w 2 (nI q), r), mm) K) : V_X0_joinUpperTwo w (nI 5) ((c, r), mm) K := by
  have a1 : (2 : Int32) ≤ nI (q + 2) := (nI_leL (a := 2) (by omega) (by omega)).mpr (by omega)
  have a2 : vp_in (nI q) 3 := vin (by omega) (by decide)
  have a3 : vp_in (nI (q + 1)) 3 := vin (by omega) (by decide)
  have a4 : (nI q).toNatClampNeg = q := nI_cl (by omega)
  have a5 : (nI (q + 1)).toNatClampNeg = q + 1 := nI_cl (by omega)
  unfold V_X0_joinUpperTwo
  simp only [forall_eq, hh, s1, s2, a4, a5, up3_kn (show (17 : Nat) ≠ 16 by decide), up3_kn (show (18 : Nat) ≠ 16 by decide)]
  refine br_t a1 ⟨fun h => ?_, fun h => ?_, fun h => ?_, fun h => ?_⟩ <;> first | exact absurd h (by decide) | skip
  exact ⟨a2, a3, a2, a3, k⟩
-- the reference
theorem mJ {j k : Nat} (hs : s < 10) (hj : j < 8) (h35 : mm 35 (8 * s + j) = nI k) (hk : 2 ≤ k ∧ k ≤ 5) (hh : mm 39 s = nI (q + 2)) (hq : q < 2) (g : V_X8_both (nI s) (nI k) (mm 40 (3 * s + (q + 1))) (mm 41 (3 * s + (q + 1))) (C, up2 mm 39 s (nI (q + 1))) K) : V_X8_work (nI s) (nI j) (C, mm) K := by
  have a2 : vp_in (nI s) 10 := vin hs (by decide)
  have a3 : (nI s).toNatClampNeg = s := nI_cl (by omega)
  have a4 : (nI (8 * s + j)).toNatClampNeg = 8 * s + j := nI_cl (by omega)
  have a5 : vp_in (nI (8 * s + j)) 80 := vin (by omega) (by decide)
  have a6 : (nI (3 * s + (q + 1))).toNatClampNeg = 3 * s + (q + 1) := nI_cl (by omega)
  have a7 : vp_in (nI (3 * s + (q + 1))) 30 := vin (by omega) (by decide)
  have a8 : nI (3 * s + (q + 2)) - 1 = nI (3 * s + (q + 1)) := s1 (3 * s + q)
  have nk : ∀ n : Nat, n < 2 ∨ 5 < n → n < 100 → ¬ nI k = nI n := fun n h h' e => by have := (nI_eqL (by omega) (by omega)).mp e; omega
  have b0 : ∀ n : Nat, n < 100 → ¬ nI (n + 1) = 0 := fun n h e => by have := (nI_eqL (b := 0) (by omega) (by omega)).mp e; omega
  unfold V_X8_work
  simp only [forall_eq, ix8, a4, h35, a3, hh, ix3, a8, a6, s1]
  refine ⟨a5, a5, nr_t (nk 0 (by omega) (by omega)) (nr_t (nk 1 (by omega) (by omega)) (nr_t (nk 9 (by omega) (by omega)) ⟨a2, nr_t (b0 (q + 1) (by omega)) ⟨a2, a7, a7, nr_t (nk 7 (by omega) (by omega)) ⟨a2, a2, nr_t (nk 6 (by omega) (by omega)) (nr_t (nk 8 (by omega) (by omega)) ⟨a2, nr_t ?_ g⟩)⟩⟩⟩))⟩
  simp only [up2_eq]
  exact (by simp [upd]; exact b0 q (by omega))
theorem mJ1 {j k : Nat} (hs : s < 10) (hj : j < 8) (h35 : mm 35 (8 * s + j) = nI k) (hk : 2 ≤ k ∧ k ≤ 5) (hh : mm 39 s = nI 1) (g : K 2 (C, up2 mm 39 s (nI 0))) : V_X8_work (nI s) (nI j) (C, mm) K := by
  have a2 : vp_in (nI s) 10 := vin hs (by decide)
  have a3 : (nI s).toNatClampNeg = s := nI_cl (by omega)
  have a4 : (nI (8 * s + j)).toNatClampNeg = 8 * s + j := nI_cl (by omega)
  have a5 : vp_in (nI (8 * s + j)) 80 := vin (by omega) (by decide)
  have a7 : vp_in (nI (3 * s)) 30 := vin (by omega) (by decide)
  have a8 : nI (3 * s + 1) - 1 = nI (3 * s) := nI_pred (3 * s)
  have a9 : nI 1 - 1 = nI 0 := rfl
  have nk : ∀ n : Nat, n < 2 ∨ 5 < n → n < 100 → ¬ nI k = nI n := fun n h h' e => by have := (nI_eqL (by omega) (by omega)).mp e; omega
  unfold V_X8_work
  simp only [forall_eq, ix8, a4, h35, a3, hh, ix3, a8, a9]
  refine ⟨a5, a5, nr_t (nk 0 (by omega) (by omega)) (nr_t (nk 1 (by omega) (by omega)) (nr_t (nk 9 (by omega) (by omega)) ⟨a2, nr_t (by decide) ⟨a2, a7, a7, nr_t (nk 7 (by omega) (by omega)) ⟨a2, a2, nr_t (nk 6 (by omega) (by omega)) (nr_t (nk 8 (by omega) (by omega)) ⟨a2, nr_f ?_ g⟩)⟩⟩⟩))⟩
  simp [up2]
  rfl
theorem mJ0 {j k : Nat} (hs : s < 10) (hj : j < 8) (h35 : mm 35 (8 * s + j) = nI k) (hk : 2 ≤ k ∧ k ≤ 8) (hh : mm 39 s = nI 0) (g : K 2 (C, mm)) : V_X8_work (nI s) (nI j) (C, mm) K := by
  have a2 : vp_in (nI s) 10 := vin hs (by decide)
  have a3 : (nI s).toNatClampNeg = s := nI_cl (by omega)
  have a4 : (nI (8 * s + j)).toNatClampNeg = 8 * s + j := nI_cl (by omega)
  have a5 : vp_in (nI (8 * s + j)) 80 := vin (by omega) (by decide)
  have nk : ∀ n : Nat, n < 2 ∨ 8 < n → n < 100 → ¬ nI k = nI n := fun n h h' e => by have := (nI_eqL (by omega) (by omega)).mp e; omega
  unfold V_X8_work
  simp only [forall_eq, ix8, a4, h35, a3, hh]
  exact ⟨a5, a5, nr_t (nk 0 (by omega) (by omega)) (nr_t (nk 1 (by omega) (by omega)) (nr_t (nk 9 (by omega) (by omega)) ⟨a2, nr_f rfl g⟩))⟩

theorem mB2 {yl yh : Int32} (hs : s < 10) (hh : mm 39 s = nI (q + 1)) (hq : q < 2) (i1 : inE (mm 40 (3 * s + q))) (i2 : inE (mm 41 (3 * s + q))) (i3 : inE yl) (i4 : inE yh) (k : V_X8_push (nI s) (nE ((mm 40 (3 * s + q)) + yl)) (nE ((mm 41 (3 * s + q)) + yh)) (C, up2 mm 39 s (nI q)) K) : V_X8_both (nI s) (nI 2) yl yh (C, mm) K := by
  have a2 : vp_in (nI s) 10 := vin hs (by decide)
  have a3 : (nI s).toNatClampNeg = s := nI_cl (by omega)
  have a6 : (nI (3 * s + q)).toNatClampNeg = 3 * s + q := nI_cl (by omega)
  have a7 : vp_in (nI (3 * s + q)) 30 := vin (by omega) (by decide)
  have u1 : up2 mm 39 s (nI q) 39 s = nI q := by simp [up2]
  unfold V_X8_both
  simp only [forall_eq, a3, hh, nI_pred, u1, ix3, a6, up2_ne (show (40 : Nat) ≠ 39 by decide), up2_ne (show (41 : Nat) ≠ 39 by decide)]
  refine ⟨a2, a2, a2, a7, a2, a7, fun h => ?_, fun h => ?_, fun h => ?_, fun h => ?_⟩ <;> first | exact absurd h (by decide) | skip
  exact mNear (tl_add i1 i3) (mNear (tl_add i2 i4) k)
theorem mB3 {yl yh : Int32} (hs : s < 10) (hh : mm 39 s = nI (q + 1)) (hq : q < 2) (i1 : inE (mm 40 (3 * s + q))) (i2 : inE (mm 41 (3 * s + q))) (i3 : inE yl) (i4 : inE yh) (k : V_X8_push (nI s) (nE ((mm 40 (3 * s + q)) - yh)) (nE ((mm 41 (3 * s + q)) - yl)) (C, up2 mm 39 s (nI q)) K) : V_X8_both (nI s) (nI 3) yl yh (C, mm) K := by
  have a2 : vp_in (nI s) 10 := vin hs (by decide)
  have a3 : (nI s).toNatClampNeg = s := nI_cl (by omega)
  have a6 : (nI (3 * s + q)).toNatClampNeg = 3 * s + q := nI_cl (by omega)
  have a7 : vp_in (nI (3 * s + q)) 30 := vin (by omega) (by decide)
  have u1 : up2 mm 39 s (nI q) 39 s = nI q := by simp [up2]
  unfold V_X8_both
  simp only [forall_eq, a3, hh, nI_pred, u1, ix3, a6, up2_ne (show (40 : Nat) ≠ 39 by decide), up2_ne (show (41 : Nat) ≠ 39 by decide)]
  refine ⟨a2, a2, a2, a7, a2, a7, fun h => ?_, fun h => ?_, fun h => ?_, fun h => ?_⟩ <;> first | exact absurd h (by decide) | skip
  exact mNear (tl_sub i1 i4) (mNear (tl_sub i2 i3) k)
theorem mB4 {yl yh : Int32} (hs : s < 10) (hh : mm 39 s = nI (q + 1)) (hq : q < 2)  (k : (mx (mm 40 (3 * s + q)) yl ≤ mn (mm 41 (3 * s + q)) yh → V_X8_push (nI s) (mx (mm 40 (3 * s + q)) yl) (mn (mm 41 (3 * s + q)) yh) (C, up2 mm 39 s (nI q)) K) ∧ (¬ mx (mm 40 (3 * s + q)) yl ≤ mn (mm 41 (3 * s + q)) yh → K 5 (C, up2 mm 39 s (nI q)))) : V_X8_both (nI s) (nI 4) yl yh (C, mm) K := by
  have a2 : vp_in (nI s) 10 := vin hs (by decide)
  have a3 : (nI s).toNatClampNeg = s := nI_cl (by omega)
  have a6 : (nI (3 * s + q)).toNatClampNeg = 3 * s + q := nI_cl (by omega)
  have a7 : vp_in (nI (3 * s + q)) 30 := vin (by omega) (by decide)
  have u1 : up2 mm 39 s (nI q) 39 s = nI q := by simp [up2]
  unfold V_X8_both
  simp only [forall_eq, a3, hh, nI_pred, u1, ix3, a6, up2_ne (show (40 : Nat) ≠ 39 by decide), up2_ne (show (41 : Nat) ≠ 39 by decide)]
  refine ⟨a2, a2, a2, a7, a2, a7, fun h => ?_, fun h => ?_, fun h => ?_, fun h => ?_⟩ <;> first | exact absurd h (by decide) | skip
  refine ⟨fun h1 => ⟨fun h2 => ?_, fun h2 => ?_⟩, fun h1 => ⟨fun h2 => ?_, fun h2 => ?_⟩⟩
  · rw [mx_le h1, mn_le h2] at k; exact k
  · rw [mx_le h1, mn_nle h2] at k; exact k
  · rw [mx_nle h1, mn_le h2] at k; exact k
  · rw [mx_nle h1, mn_nle h2] at k; exact k
theorem mB5 {yl yh : Int32} (hs : s < 10) (hh : mm 39 s = nI (q + 1)) (hq : q < 2)  (k : V_X8_push (nI s) (mn (mm 40 (3 * s + q)) yl) (mx (mm 41 (3 * s + q)) yh) (C, up2 mm 39 s (nI q)) K) : V_X8_both (nI s) (nI 5) yl yh (C, mm) K := by
  have a2 : vp_in (nI s) 10 := vin hs (by decide)
  have a3 : (nI s).toNatClampNeg = s := nI_cl (by omega)
  have a6 : (nI (3 * s + q)).toNatClampNeg = 3 * s + q := nI_cl (by omega)
  have a7 : vp_in (nI (3 * s + q)) 30 := vin (by omega) (by decide)
  have u1 : up2 mm 39 s (nI q) 39 s = nI q := by simp [up2]
  unfold V_X8_both
  simp only [forall_eq, a3, hh, nI_pred, u1, ix3, a6, up2_ne (show (40 : Nat) ≠ 39 by decide), up2_ne (show (41 : Nat) ≠ 39 by decide)]
  refine ⟨a2, a2, a2, a7, a2, a7, fun h => ?_, fun h => ?_, fun h => ?_, fun h => ?_⟩ <;> first | exact absurd h (by decide) | skip
  refine ⟨fun h1 => ⟨fun h2 => ?_, fun h2 => ?_⟩, fun h1 => ⟨fun h2 => ?_, fun h2 => ?_⟩⟩
  · rw [mn_le h1, mx_le h2] at k; exact k
  · rw [mn_le h1, mx_nle h2] at k; exact k
  · rw [mn_nle h1, mx_le h2] at k; exact k
  · rw [mn_nle h1, mx_nle h2] at k; exact k
end
theorem up2_up2 (mm : MM) (k j : Nat) (v v' : Int32) : up2 (up2 mm k j v) k j v' = up2 mm k j v' := by
  funext k' j'
  unfold up2
  split <;> rfl
section
variable {c : Nat → Nat → Nat → Int32} {r : Nat → Nat → Option Nat} {mm : MM} {w s h q j : Nat} {a b : Int32}
theorem a2_pop {VC VM : MW → (Int32 → MW → Prop) → Prop} (hC : Ci VC (c, r) (nI 2) (c, r)) (v : Int32) (hM : Mi VM mm (nI 2) (up2 mm 39 s v)) : Act2 VC VM c r mm w s :=
  ⟨2, c, _, hC, hM, by decide, FrC_r _ _, FrM_u _ _ _ _ (by omega), fun e => absurd e (by decide)⟩
theorem i_le_add {a b c d : Int32} (h1 : inE a) (h2 : inE b) (h3 : inE c) (h4 : inE d) (h : a ≤ b) (h' : c ≤ d) : a + c ≤ b + d := by
  rw [i_le, t_add h1 h3, t_add h2 h4]
  have := i_le.mp h
  have := i_le.mp h'
  omega
theorem i_le_sub {a b c d : Int32} (h1 : inE a) (h2 : inE b) (h3 : inE c) (h4 : inE d) (h : a ≤ b) (h' : c ≤ d) : a - d ≤ b - c := by
  rw [i_le, t_sub h1 h4, t_sub h2 h3]
  have := i_le.mp h
  have := i_le.mp h'
  omega

theorem act2 (hs : s < 10) (hj : j < 8) (h35 : mm 35 (8 * s + j) = nI 2) (hS : StR c mm w s h) (hR : RowR c mm w s) : Act2 (V_X0_doAct w (nI 2) a b) (V_X8_work (nI s) (nI j)) c r mm w s := by
  have h3 := hS.1
  rcases Nat.lt_or_ge h 2 with h2 | h2
  · have e : h = 0 ∨ h = 1 := by omega
    rcases e with e | e
    · subst e
      exact a2_no 2 (by decide) (by decide) (fun mm K k => dA2 (cJ_lo hS.2.1 h2 k)) (fun C K k => mJ0 hs hj h35 (by omega) hS.2.2.1 k)
    · subst e
      exact a2_pop (fun mm K k => dA2 (cJ_lo hS.2.1 h2 k)) _ (fun C K k => mJ1 hs hj h35 (by omega) hS.2.2.1 k)
  · obtain ⟨q, rfl⟩ : ∃ q, h = q + 2 := ⟨h - 2, by omega⟩
    obtain ⟨x1, x2, x3⟩ := hS.2.2.2 q (by omega)
    obtain ⟨y1, y2, y3⟩ := hS.2.2.2 (q + 1) (by omega)
    have e1 : up2 mm 39 s (nI (q + 1)) 40 (3 * s + q) = mm 40 (3 * s + q) := by simp [up2]
    have e2 : up2 mm 39 s (nI (q + 1)) 41 (3 * s + q) = mm 41 (3 * s + q) := by simp [up2]
    have z := a2_push (VC := V_X0_doAct w (nI 2) a b) (VM := V_X8_work (nI s) (nI j)) (c := c) (r := r) (mm := mm) hs (FrC_u c 16 2 (nI q) (by decide) (by decide)) (FrM_u mm 39 s (nI q) (by omega)) (St_pop hS (by omega)) (Row_pop hR) (x := nE (c 17 w q + c 17 w (q + 1))) (y := nE (c 18 w q + c 18 w (q + 1))) (Rg_of (nE_mono (i_le_add (Rg_l x1) (Rg_h x1) (Rg_l y1) (Rg_h y1) x1.1 y1.1)) (nE_in _) (nE_in _)) (fun mm K k => dA2 (cJ2 hS.2.1 (by omega) k)) (fun C K k => mJ hs hj h35 (by omega) hS.2.2.1 (by omega) (by
      refine mB2 hs (q := q) (by simp [up2]) (by omega) ?_ ?_ ?_ ?_ ?_
      · rw [e1, x2]; exact Rg_l x1
      · rw [e2, x3]; exact Rg_h x1
      · rw [y2]; exact Rg_l y1
      · rw [y3]; exact Rg_h y1
      · rw [up2_up2, e1, e2, x2, x3, y2, y3]; exact k))
    exact z
theorem act3 (hs : s < 10) (hj : j < 8) (h35 : mm 35 (8 * s + j) = nI 3) (hS : StR c mm w s h) (hR : RowR c mm w s) : Act2 (V_X0_doAct w (nI 3) a b) (V_X8_work (nI s) (nI j)) c r mm w s := by
  have h3 := hS.1
  rcases Nat.lt_or_ge h 2 with h2 | h2
  · have e : h = 0 ∨ h = 1 := by omega
    rcases e with e | e
    · subst e
      exact a2_no 2 (by decide) (by decide) (fun mm K k => dA3 (cJ_lo hS.2.1 h2 k)) (fun C K k => mJ0 hs hj h35 (by omega) hS.2.2.1 k)
    · subst e
      exact a2_pop (fun mm K k => dA3 (cJ_lo hS.2.1 h2 k)) _ (fun C K k => mJ1 hs hj h35 (by omega) hS.2.2.1 k)
  · obtain ⟨q, rfl⟩ : ∃ q, h = q + 2 := ⟨h - 2, by omega⟩
    obtain ⟨x1, x2, x3⟩ := hS.2.2.2 q (by omega)
    obtain ⟨y1, y2, y3⟩ := hS.2.2.2 (q + 1) (by omega)
    have e1 : up2 mm 39 s (nI (q + 1)) 40 (3 * s + q) = mm 40 (3 * s + q) := by simp [up2]
    have e2 : up2 mm 39 s (nI (q + 1)) 41 (3 * s + q) = mm 41 (3 * s + q) := by simp [up2]
    have z := a2_push (VC := V_X0_doAct w (nI 3) a b) (VM := V_X8_work (nI s) (nI j)) (c := c) (r := r) (mm := mm) hs (FrC_u c 16 2 (nI q) (by decide) (by decide)) (FrM_u mm 39 s (nI q) (by omega)) (St_pop hS (by omega)) (Row_pop hR) (x := nE (c 17 w q - c 18 w (q + 1))) (y := nE (c 18 w q - c 17 w (q + 1))) (Rg_of (nE_mono (i_le_sub (Rg_l x1) (Rg_h x1) (Rg_l y1) (Rg_h y1) x1.1 y1.1)) (nE_in _) (nE_in _)) (fun mm K k => dA3 (cJ3 hS.2.1 (by omega) k)) (fun C K k => mJ hs hj h35 (by omega) hS.2.2.1 (by omega) (by
      refine mB3 hs (q := q) (by simp [up2]) (by omega) ?_ ?_ ?_ ?_ ?_
      · rw [e1, x2]; exact Rg_l x1
      · rw [e2, x3]; exact Rg_h x1
      · rw [y2]; exact Rg_l y1
      · rw [y3]; exact Rg_h y1
      · rw [up2_up2, e1, e2, x2, x3, y2, y3]; exact k))
    exact z
theorem act4 (hs : s < 10) (hj : j < 8) (h35 : mm 35 (8 * s + j) = nI 4) (hS : StR c mm w s h) (hR : RowR c mm w s) : Act2 (V_X0_doAct w (nI 4) a b) (V_X8_work (nI s) (nI j)) c r mm w s := by
  have h3 := hS.1
  rcases Nat.lt_or_ge h 2 with h2 | h2
  · have e : h = 0 ∨ h = 1 := by omega
    rcases e with e | e
    · subst e
      exact a2_no 2 (by decide) (by decide) (fun mm K k => dA4 (cJ_lo hS.2.1 h2 k)) (fun C K k => mJ0 hs hj h35 (by omega) hS.2.2.1 k)
    · subst e
      exact a2_pop (fun mm K k => dA4 (cJ_lo hS.2.1 h2 k)) _ (fun C K k => mJ1 hs hj h35 (by omega) hS.2.2.1 k)
  · obtain ⟨q, rfl⟩ : ∃ q, h = q + 2 := ⟨h - 2, by omega⟩
    obtain ⟨x1, x2, x3⟩ := hS.2.2.2 q (by omega)
    obtain ⟨y1, y2, y3⟩ := hS.2.2.2 (q + 1) (by omega)
    have e1 : up2 mm 39 s (nI (q + 1)) 40 (3 * s + q) = mm 40 (3 * s + q) := by simp [up2]
    have e2 : up2 mm 39 s (nI (q + 1)) 41 (3 * s + q) = mm 41 (3 * s + q) := by simp [up2]
    have hiff : (¬ c 18 w (q + 1) < c 17 w q ∧ c 17 w (q + 1) ≤ c 18 w q) ↔ mx (c 17 w q) (c 17 w (q + 1)) ≤ mn (c 18 w q) (c 18 w (q + 1)) := by
      have t1 := i_le.mp x1.1
      have t2 := i_le.mp y1.1
      rw [i_le, i_lt, i_le, mx_t, mn_t]
      split <;> split <;> omega
    by_cases g : mx (c 17 w q) (c 17 w (q + 1)) ≤ mn (c 18 w q) (c 18 w (q + 1))
    · have z := a2_push (VC := V_X0_doAct w (nI 4) a b) (VM := V_X8_work (nI s) (nI j)) (c := c) (r := r) (mm := mm) hs (FrC_u c 16 2 (nI q) (by decide) (by decide)) (FrM_u mm 39 s (nI q) (by omega)) (St_pop hS (by omega)) (Row_pop hR) (x := mx (c 17 w q) (c 17 w (q + 1))) (y := mn (c 18 w q) (c 18 w (q + 1))) (Rg_of g (mx_in (Rg_l x1) (Rg_l y1)) (mn_in (Rg_h x1) (Rg_h y1))) (fun mm K k => dA4 (cJ4 hS.2.1 (by omega) ⟨fun _ => k, fun n => absurd (hiff.mpr g) n⟩)) (fun C K k => mJ hs hj h35 (by omega) hS.2.2.1 (by omega) (by
        refine mB4 hs (q := q) (by simp [up2]) (by omega) ?_
        rw [up2_up2, e1, e2, x2, x3, y2, y3]
        exact ⟨fun _ => k, fun n => absurd g n⟩))
      exact z
    · refine ⟨5, up3 c 16 w 2 (nI q), up2 mm 39 s (nI q), fun mm K k => dA4 (cJ4 hS.2.1 (by omega) ⟨fun n => absurd (hiff.mp n) g, fun _ => k⟩), fun C K k => mJ hs hj h35 (by omega) hS.2.2.1 (by omega) (by
        refine mB4 hs (q := q) (by simp [up2]) (by omega) ?_
        rw [up2_up2, e1, e2, x2, x3, y2, y3]
        exact ⟨fun n => absurd n g, fun _ => k⟩), by decide, FrC_u c 16 2 (nI q) (by decide) (by decide), FrM_u mm 39 s (nI q) (by omega), fun e => absurd e (by decide)⟩
theorem act5 (hs : s < 10) (hj : j < 8) (h35 : mm 35 (8 * s + j) = nI 5) (hS : StR c mm w s h) (hR : RowR c mm w s) : Act2 (V_X0_doAct w (nI 5) a b) (V_X8_work (nI s) (nI j)) c r mm w s := by
  have h3 := hS.1
  rcases Nat.lt_or_ge h 2 with h2 | h2
  · have e : h = 0 ∨ h = 1 := by omega
    rcases e with e | e
    · subst e
      exact a2_no 2 (by decide) (by decide) (fun mm K k => dA5 (cJ_lo hS.2.1 h2 k)) (fun C K k => mJ0 hs hj h35 (by omega) hS.2.2.1 k)
    · subst e
      exact a2_pop (fun mm K k => dA5 (cJ_lo hS.2.1 h2 k)) _ (fun C K k => mJ1 hs hj h35 (by omega) hS.2.2.1 k)
  · obtain ⟨q, rfl⟩ : ∃ q, h = q + 2 := ⟨h - 2, by omega⟩
    obtain ⟨x1, x2, x3⟩ := hS.2.2.2 q (by omega)
    obtain ⟨y1, y2, y3⟩ := hS.2.2.2 (q + 1) (by omega)
    have e1 : up2 mm 39 s (nI (q + 1)) 40 (3 * s + q) = mm 40 (3 * s + q) := by simp [up2]
    have e2 : up2 mm 39 s (nI (q + 1)) 41 (3 * s + q) = mm 41 (3 * s + q) := by simp [up2]
    have hr : mn (c 17 w q) (c 17 w (q + 1)) ≤ mx (c 18 w q) (c 18 w (q + 1)) := by
      have t1 := i_le.mp x1.1
      have t2 := i_le.mp y1.1
      rw [i_le, mx_t, mn_t]
      split <;> split <;> omega
    have z := a2_push (VC := V_X0_doAct w (nI 5) a b) (VM := V_X8_work (nI s) (nI j)) (c := c) (r := r) (mm := mm) hs (FrC_u c 16 2 (nI q) (by decide) (by decide)) (FrM_u mm 39 s (nI q) (by omega)) (St_pop hS (by omega)) (Row_pop hR) (x := mn (c 17 w q) (c 17 w (q + 1))) (y := mx (c 18 w q) (c 18 w (q + 1))) (Rg_of hr (mn_in (Rg_l x1) (Rg_l y1)) (mx_in (Rg_h x1) (Rg_h y1))) (fun mm K k => dA5 (cJ5 hS.2.1 (by omega) k)) (fun C K k => mJ hs hj h35 (by omega) hS.2.2.1 (by omega) (by
      refine mB5 hs (q := q) (by simp [up2]) (by omega) ?_
      rw [up2_up2, e1, e2, x2, x3, y2, y3]
      exact k))
    exact z
theorem mW0 {K : Int32 → MW → Prop} {C : MC} (hs : s < 10) (hj : j < 8) (h35 : mm 35 (8 * s + j) = nI 0) (h36 : mm 36 (8 * s + j) = a) (h37 : mm 37 (8 * s + j) = b) (k : (a ≤ b → V_X8_push (nI s) a b (C, mm) K) ∧ (¬ a ≤ b → K 5 (C, mm))) : V_X8_work (nI s) (nI j) (C, mm) K := by
  have a4 : (nI (8 * s + j)).toNatClampNeg = 8 * s + j := nI_cl (by omega)
  have a5 : vp_in (nI (8 * s + j)) 80 := vin (by omega) (by decide)
  unfold V_X8_work
  simp only [forall_eq, ix8, a4, h35, h36, h37]
  exact ⟨a5, a5, nr_f rfl ⟨a5, fun g => ⟨a5, k.1 g⟩, k.2⟩⟩
theorem act0 (hs : s < 10) (hj : j < 8) (h35 : mm 35 (8 * s + j) = nI 0) (h36 : mm 36 (8 * s + j) = a) (h37 : mm 37 (8 * s + j) = b) (ha : inE a) (hb : inE b) (hS : StR c mm w s h) (hR : RowR c mm w s) : Act2 (V_X0_doAct w (nI 0) a b) (V_X8_work (nI s) (nI j)) c r mm w s := by
  by_cases g : a ≤ b
  · exact a2_push hs (FrC_r _ _) (FrM_r _ _) hS hR (Rg_of g ha hb) (fun mm K k => dA0 ⟨fun _ => k, fun n => absurd g n⟩) (fun C K k => mW0 hs hj h35 h36 h37 ⟨fun _ => k, fun n => absurd g n⟩)
  · exact a2_no 5 (by decide) (by decide) (fun mm K k => dA0 ⟨fun n => absurd n g, fun _ => k⟩) (fun C K k => mW0 hs hj h35 h36 h37 ⟨fun n => absurd n g, fun _ => k⟩)
theorem mW1 {K : Int32 → MW → Prop} {C : MC} (hs : s < 10) (hj : j < 8) (h35 : mm 35 (8 * s + j) = nI 1) (h36 : mm 36 (8 * s + j) = a) (k : V_X8_isFact a (C, mm) (fun v m => (¬ v = 0 → vp_in a 10 ∧ (m.2 30 a.toNatClampNeg ≤ m.2 31 a.toNatClampNeg → V_X8_push (nI s) (m.2 30 a.toNatClampNeg) (m.2 31 a.toNatClampNeg) m K) ∧ (¬ m.2 30 a.toNatClampNeg ≤ m.2 31 a.toNatClampNeg → K 1 m)) ∧ (v = 0 → K 2 m))) : V_X8_work (nI s) (nI j) (C, mm) K := by
  have a4 : (nI (8 * s + j)).toNatClampNeg = 8 * s + j := nI_cl (by omega)
  have a5 : vp_in (nI (8 * s + j)) 80 := vin (by omega) (by decide)
  unfold V_X8_work
  simp only [forall_eq, ix8, a4, h35, h36]
  refine ⟨a5, a5, nr_t (by decide) (nr_f rfl ?_)⟩
  rcases ix a 10 (by decide) with g | ⟨f, hf, rfl⟩
  · refine mFact0 g (nr_f rfl ?_)
    have : ∀ h : V_X8_isFact a (C, mm) (fun v m => v = 0 → K 2 m), K 2 (C, mm) := fun h => by
      rcases g with g | ⟨g1, g2⟩
      · exact h.1 g rfl
      · exact (h.2 g1).1 g2 rfl
    rcases g with g | ⟨g1, g2⟩
    · exact (k.1 g).2 rfl
    · exact ((k.2 g1).1 g2).2 rfl
  · refine mFact1 hf (nr_t (by decide) ?_)
    have := ((k.2 (nlt0 (by omega))).2 (nI_lt10 hf)).1 (by decide)
    exact ⟨this.1, this.1, fun g => ⟨this.1, this.1, this.2.1 g⟩, this.2.2⟩
theorem act1 (hs : s < 10) (hj : j < 8) (h35 : mm 35 (8 * s + j) = nI 1) (h36 : mm 36 (8 * s + j) = a) (hF : FactR (c 2 0) (c 3 0) (c 4 0) (mm 30) (mm 31)) (hS : StR c mm w s h) (hR : RowR c mm w s) : Act2 (V_X0_doAct w (nI 1) a b) (V_X8_work (nI s) (nI j)) c r mm w s := by
  rcases ix a 10 (by decide) with g | ⟨f, hf, rfl⟩
  · exact a2_no 2 (by decide) (by decide) (fun mm K k => dA1 (cFact0 g (nr_f rfl k))) (fun C K k => mW1 hs hj h35 h36 (mFact0 g (nr_f rfl k)))
  · have hc : (nI f).toNatClampNeg = f := nI_cl (by omega)
    have hv : vp_in (nI f) 10 := vin hf (by decide)
    rcases hF f hf with ⟨b1, b2, b3, b4⟩ | ⟨b1, b2⟩
    · refine a2_push hs (FrC_r _ _) (FrM_r _ _) hS hR b4 (fun mm K k => dA1 (cFact1 hf (nr_t (by decide) ⟨hv, br_f ?_ ⟨hv, hv, ?_⟩⟩))) (fun C K k => mW1 hs hj h35 h36 (mFact1 hf (nr_t (by decide) ⟨hv, br_t ?_ ?_⟩)))
      · rw [hc]; show ¬ c 2 0 f = 0; rw [b1]; decide
      · rw [hc]; exact k
      · rw [hc]; show mm 30 f ≤ mm 31 f; rw [← b2, ← b3]; exact b4.1
      · rw [hc]; rw [b2, b3] at k; exact k
    · refine a2_no 1 (by decide) (by decide) (fun mm K k => dA1 (cFact1 hf (nr_t (by decide) ⟨hv, br_t ?_ k⟩))) (fun C K k => mW1 hs hj h35 h36 (mFact1 hf (nr_t (by decide) ⟨hv, br_f ?_ k⟩)))
      · rw [hc]; exact b1
      · rw [hc]; exact i_nle.mpr b2
theorem cItem1 {K : Int32 → MW → Prop} {m : MW} {f : Nat} (hf : f < 3) (k : K 1 m) : V_X0_isItem (nI f) m K := br_f (nlt0 (by omega)) (br_f (fun e => by have := (nI_leL (a := 3) (by omega) (by omega)).mp e; omega) k)
theorem cItem0 {K : Int32 → MW → Prop} {m : MW} {x : Int32} (h : x < 0 ∨ ¬ x < 0 ∧ nI 3 ≤ x) (k : K 0 m) : V_X0_isItem x m K := by
  rcases h with h | ⟨h, h2⟩
  · exact br_t h k
  · exact br_f h (br_t h2 k)
theorem le2 {f : Nat} (hf : f < 3) : nI f ≤ 2 := (nI_leL (b := 2) (by omega) (by omega)).mpr (by omega)
theorem nle2 {x : Int32} (h : nI 3 ≤ x) : ¬ x ≤ 2 := by
  have := i_le.mp h
  rw [i_le]
  have e : (nI 3).toInt = 3 := by decide
  have e2 : (2 : Int32).toInt = 2 := by decide
  omega
theorem act9 (hs : s < 10) (hj : j < 8) (h35 : mm 35 (8 * s + j) = nI 9) (h36 : mm 36 (8 * s + j) = a) (hS : StR c mm w s h) (hR : RowR c mm w s) : Act2 (V_X0_doAct w (nI 9) a b) (V_X8_work (nI s) (nI j)) c r mm w s := by
  have a4 : (nI (8 * s + j)).toNatClampNeg = 8 * s + j := nI_cl (by omega)
  have a5 : vp_in (nI (8 * s + j)) 80 := vin (by omega) (by decide)
  rcases ix a 3 (by decide) with g | ⟨f, hf, rfl⟩
  · refine a2_no 2 (by decide) (by decide) (fun mm K k => dA9 (cItem0 g (nr_f rfl k))) (fun C K k => ?_)
    unfold V_X8_work
    simp only [forall_eq, ix8, a4, h35, h36]
    refine ⟨a5, a5, nr_t (by decide) (nr_t (by decide) (nr_f rfl ?_))⟩
    rcases g with g | ⟨g1, g2⟩
    · exact br_t g k
    · exact br_f g1 (br_f (nle2 g2) k)
  · have hc : (nI f).toNatClampNeg = f := nI_cl (by omega)
    have hv : vp_in (nI f) 3 := vin hf (by decide)
    have hc3 : (nI (3 * s + f)).toNatClampNeg = 3 * s + f := nI_cl (by omega)
    have hv3 : vp_in (nI (3 * s + f)) 30 := vin (by omega) (by decide)
    rcases hR f hf with ⟨b1, b2, b3, b4⟩ | ⟨b1, b2⟩
    · refine a2_push hs (FrC_r _ _) (FrM_r _ _) hS hR b2 (fun mm K k => dA9 (cItem1 hf (nr_t (by decide) ⟨hv, br_f ?_ ⟨hv, hv, ?_⟩⟩))) (fun C K k => ?_)
      · rw [hc]; show ¬ c 19 w f = 0; rw [b1]; decide
      · rw [hc]; exact k
      · unfold V_X8_work
        simp only [forall_eq, ix8, a4, h35, h36, ix3, hc3]
        refine ⟨a5, a5, nr_t (by decide) (nr_t (by decide) (nr_f rfl (br_f (nlt0 (by omega)) (br_t (le2 hf) ⟨hv3, hv3, br_t ?_ ⟨hv3, hv3, ?_⟩⟩))))⟩
        · rw [b3, b4]; exact b2.1
        · rw [b3, b4]; exact k
    · refine a2_no 1 (by decide) (by decide) (fun mm K k => dA9 (cItem1 hf (nr_t (by decide) ⟨hv, br_t ?_ k⟩))) (fun C K k => ?_)
      · rw [hc]; exact b1
      · unfold V_X8_work
        simp only [forall_eq, ix8, a4, h35, h36, ix3, hc3]
        exact ⟨a5, a5, nr_t (by decide) (nr_t (by decide) (nr_f rfl (br_f (nlt0 (by omega)) (br_t (le2 hf) ⟨hv3, hv3, br_f (i_nle.mpr b2) k⟩))))⟩
theorem act7 (hs : s < 10) (hj : j < 8) (h35 : mm 35 (8 * s + j) = nI 7) (hS : StR c mm w s h) (hR : RowR c mm w s) : Act2 (V_X0_doAct w (nI 7) a b) (V_X8_work (nI s) (nI j)) c r mm w s := by
  have h3 := hS.1
  rcases Nat.eq_zero_or_pos h with e | e
  · subst e
    exact a2_no 2 (by decide) (by decide) (fun mm K k => dA7 (br_f (show ¬ 1 ≤ c 16 w 2 by rw [hS.2.1]; decide) k)) (fun C K k => mJ0 hs hj h35 (by omega) hS.2.2.1 k)
  · obtain ⟨q, rfl⟩ : ∃ q, h = q + 1 := ⟨h - 1, by omega⟩
    obtain ⟨x1, x2, x3⟩ := hS.2.2.2 q (by omega)
    have hh := hS.2.1
    have a2 : vp_in (nI s) 10 := vin hs (by decide)
    have a3 : (nI s).toNatClampNeg = s := nI_cl (by omega)
    have a4 : (nI (8 * s + j)).toNatClampNeg = 8 * s + j := nI_cl (by omega)
    have a5 : vp_in (nI (8 * s + j)) 80 := vin (by omega) (by decide)
    have a6 : (nI (3 * s + q)).toNatClampNeg = 3 * s + q := nI_cl (by omega)
    have a7 : vp_in (nI (3 * s + q)) 30 := vin (by omega) (by decide)
    have a8 : nI (3 * s + (q + 1)) - 1 = nI (3 * s + q) := nI_pred (3 * s + q)
    have b0 : ∀ n : Nat, n < 100 → ¬ nI (n + 1) = 0 := fun n h e => by have := (nI_eqL (b := 0) (by omega) (by omega)).mp e; omega
    have c1 : (1 : Int32) ≤ nI (q + 1) := (nI_leL (a := 1) (by omega) (by omega)).mpr (by omega)
    have c2 : vp_in (nI q) 3 := vin (by omega) (by decide)
    have c3 : (nI q).toNatClampNeg = q := nI_cl (by omega)
    have hC : ∀ mm K, ((¬ c 17 w q = c 18 w q → K 4 ((c, r), mm)) ∧ (c 17 w q = c 18 w q → K 0 ((c, r), mm))) → V_X0_doAct w (nI 7) a b ((c, r), mm) K := fun mm K k => dA7 (by
      unfold V_X0_testPoint
      simp only [hh, nI_pred, c3]
      exact br_t c1 ⟨c2, c2, k⟩)
    have hM : ∀ C K, ((¬ c 17 w q = c 18 w q → K 4 (C, mm)) ∧ (c 17 w q = c 18 w q → K 0 (C, mm))) → V_X8_work (nI s) (nI j) (C, mm) K := fun C K k => by
      unfold V_X8_work
      simp only [forall_eq, ix8, a4, h35, a3, hS.2.2.1, ix3, a8, a6, x2, x3]
      exact ⟨a5, a5, nr_t (by decide) (nr_t (by decide) (nr_t (by decide) ⟨a2, nr_t (b0 q (by omega)) ⟨a2, a7, a7, nr_f rfl k⟩⟩))⟩
    by_cases g : c 17 w q = c 18 w q
    · exact ⟨0, c, mm, fun mm K k => hC mm K (nr_f g k), fun C K k => hM C K (nr_f g k), by decide, FrC_r _ _, FrM_r _ _, fun _ => ⟨hR, _, hS⟩⟩
    · exact a2_no 4 (by decide) (by decide) (fun mm K k => hC mm K (nr_t g k)) (fun C K k => hM C K (nr_t g k))
theorem act8 (hs : s < 10) (hj : j < 8) (h35 : mm 35 (8 * s + j) = nI 8) (h36 : mm 36 (8 * s + j) = a) (hS : StR c mm w s h) (hR : RowR c mm w s) : Act2 (V_X0_doAct w (nI 8) a b) (V_X8_work (nI s) (nI j)) c r mm w s := by
  have h3 := hS.1
  rcases Nat.eq_zero_or_pos h with e | e
  · subst e
    exact a2_no 2 (by decide) (by decide) (fun mm K k => dA8 (br_t (show c 16 w 2 < 1 by rw [hS.2.1]; decide) k)) (fun C K k => mJ0 hs hj h35 (by omega) hS.2.2.1 k)
  · obtain ⟨q, rfl⟩ : ∃ q, h = q + 1 := ⟨h - 1, by omega⟩
    obtain ⟨x1, x2, x3⟩ := hS.2.2.2 q (by omega)
    have hh := hS.2.1
    have a2 : vp_in (nI s) 10 := vin hs (by decide)
    have a3 : (nI s).toNatClampNeg = s := nI_cl (by omega)
    have a4 : (nI (8 * s + j)).toNatClampNeg = 8 * s + j := nI_cl (by omega)
    have a5 : vp_in (nI (8 * s + j)) 80 := vin (by omega) (by decide)
    have a6 : (nI (3 * s + q)).toNatClampNeg = 3 * s + q := nI_cl (by omega)
    have a7 : vp_in (nI (3 * s + q)) 30 := vin (by omega) (by decide)
    have a8 : nI (3 * s + (q + 1)) - 1 = nI (3 * s + q) := nI_pred (3 * s + q)
    have b0 : ∀ n : Nat, n < 100 → ¬ nI (n + 1) = 0 := fun n h e => by have := (nI_eqL (b := 0) (by omega) (by omega)).mp e; omega
    have c1 : ¬ nI (q + 1) < 1 := fun e => by have := (nI_ltL (b := 1) (by omega) (by omega)).mp e; omega
    have c2 : vp_in (nI q) 3 := vin (by omega) (by decide)
    have c3 : (nI q).toNatClampNeg = q := nI_cl (by omega)
    rcases ix a 3 (by decide) with g | ⟨f, hf, rfl⟩
    · refine a2_pop (v := nI q) (fun mm K k => dA8 (br_f (show ¬ c 16 w 2 < 1 by rw [hh]; exact c1) (cItem0 g (nr_f rfl k)))) (fun C K k => ?_)
      unfold V_X8_work
      simp only [forall_eq, ix8, a4, h35, h36, a3, hS.2.2.1, ix3, a8, a6, nI_pred]
      refine ⟨a5, a5, nr_t (by decide) (nr_t (by decide) (nr_t (by decide) ⟨a2, nr_t (b0 q (by omega)) ⟨a2, a7, a7, nr_t (by decide) ⟨a2, a2, nr_t (by decide) (nr_f rfl ?_)⟩⟩⟩))⟩
      rcases g with g | ⟨g1, g2⟩
      · exact br_t g k
      · exact br_f g1 (br_f (nle2 g2) k)
    · have hc : (nI f).toNatClampNeg = f := nI_cl (by omega)
      have hv : vp_in (nI f) 3 := vin hf (by decide)
      have hc3 : (nI (3 * s + f)).toNatClampNeg = 3 * s + f := nI_cl (by omega)
      have hv3 : vp_in (nI (3 * s + f)) 30 := vin (by omega) (by decide)
      refine ⟨0, up3 (up3 (up3 (up3 c 16 w 2 (nI q)) 19 w f 1) 20 w f (c 17 w q)) 21 w f (c 18 w q), up2 (up2 (up2 mm 39 s (nI q)) 42 (3 * s + f) (c 17 w q)) 43 (3 * s + f) (c 18 w q), fun mm K k => dA8 (br_f (show ¬ c 16 w 2 < 1 by rw [hh]; exact c1) (cItem1 hf (nr_t (by decide) ?_))), fun C K k => ?_, by decide, ?_, ?_, fun _ => ⟨?_, q, ?_⟩⟩
      · have u1 : up3 c 16 w 2 (nI q) 16 w 2 = nI q := up3_self
        simp only [forall_eq, hh, nI_pred, hc, up3_kn (show (16 : Nat) ≠ 19 by decide), up3_kn (show (17 : Nat) ≠ 19 by decide), up3_kn (show (17 : Nat) ≠ 16 by decide), up3_kn (show (16 : Nat) ≠ 20 by decide), up3_kn (show (18 : Nat) ≠ 16 by decide), up3_kn (show (18 : Nat) ≠ 19 by decide), up3_kn (show (18 : Nat) ≠ 20 by decide), u1, c3]
        exact ⟨hv, c2, hv, c2, hv, k⟩
      · unfold V_X8_work
        simp only [forall_eq, ix8, a4, h35, h36, a3, hS.2.2.1, ix3, a8, a6, nI_pred, hc3, x2, x3]
        exact ⟨a5, a5, nr_t (by decide) (nr_t (by decide) (nr_t (by decide) ⟨a2, nr_t (b0 q (by omega)) ⟨a2, a7, a7, nr_t (by decide) ⟨a2, a2, nr_t (by decide) (nr_f rfl (br_f (nlt0 (by omega)) (br_t (le2 hf) ⟨hv3, hv3, k⟩)))⟩⟩⟩))⟩
      · exact FrC_t (FrC_t (FrC_t (FrC_u c 16 2 _ (by decide) (by decide)) (FrC_u _ 19 f _ (by decide) (by decide))) (FrC_u _ 20 f _ (by decide) (by decide))) (FrC_u _ 21 f _ (by decide) (by decide))
      · exact FrM_t (FrM_t (FrM_u mm 39 s _ (by omega)) (FrM_u _ 42 _ _ (by omega))) (FrM_u _ 43 _ _ (by omega))
      · intro i hi
        by_cases e : i = f
        · subst e
          left
          simpa [up3, up2] using x1
        · have := hR i hi
          simpa [up3, up2, e] using this
      · refine ⟨by omega, by simp [up3], by simp [up2], fun i hi => ?_⟩
        have := hS.2.2.2 i (by omega)
        simpa [up3, up2] using this
theorem act6 (hs : s < 10) (hj : j < 8) (h35 : mm 35 (8 * s + j) = nI 6) (h36 : mm 36 (8 * s + j) = a) (hS : StR c mm w s h) (hR : RowR c mm w s) : Act2 (V_X0_doAct w (nI 6) a b) (V_X8_work (nI s) (nI j)) c r mm w s := by
  have h3 := hS.1
  rcases Nat.eq_zero_or_pos h with e | e
  · subst e
    exact a2_no 2 (by decide) (by decide) (fun mm K k => dA6 (br_f (show ¬ 1 ≤ c 16 w 2 by rw [hS.2.1]; decide) k)) (fun C K k => mJ0 hs hj h35 (by omega) hS.2.2.1 k)
  · obtain ⟨q, rfl⟩ : ∃ q, h = q + 1 := ⟨h - 1, by omega⟩
    obtain ⟨x1, x2, x3⟩ := hS.2.2.2 q (by omega)
    have hh := hS.2.1
    have a2 : vp_in (nI s) 10 := vin hs (by decide)
    have a3 : (nI s).toNatClampNeg = s := nI_cl (by omega)
    have a4 : (nI (8 * s + j)).toNatClampNeg = 8 * s + j := nI_cl (by omega)
    have a5 : vp_in (nI (8 * s + j)) 80 := vin (by omega) (by decide)
    have a6 : (nI (3 * s + q)).toNatClampNeg = 3 * s + q := nI_cl (by omega)
    have a7 : vp_in (nI (3 * s + q)) 30 := vin (by omega) (by decide)
    have a8 : nI (3 * s + (q + 1)) - 1 = nI (3 * s + q) := nI_pred (3 * s + q)
    have b0 : ∀ n : Nat, n < 100 → ¬ nI (n + 1) = 0 := fun n h e => by have := (nI_eqL (b := 0) (by omega) (by omega)).mp e; omega
    have c1 : (1 : Int32) ≤ nI (q + 1) := (nI_leL (a := 1) (by omega) (by omega)).mpr (by omega)
    have c2 : vp_in (nI q) 3 := vin (by omega) (by decide)
    have c3 : (nI q).toNatClampNeg = q := nI_cl (by omega)
    have hM : ∀ C K, ((¬ a = 0 → V_X8_by (nI s) (c 17 w q) (c 18 w q) a (C, up2 mm 39 s (nI q)) K) ∧ (a = 0 → K 3 (C, up2 mm 39 s (nI q)))) → V_X8_work (nI s) (nI j) (C, mm) K := fun C K k => by
      unfold V_X8_work
      simp only [forall_eq, ix8, a4, h35, h36, a3, hS.2.2.1, ix3, a8, a6, x2, x3, nI_pred]
      exact ⟨a5, a5, nr_t (by decide) (nr_t (by decide) (nr_t (by decide) ⟨a2, nr_t (b0 q (by omega)) ⟨a2, a7, a7, nr_t (by decide) ⟨a2, a2, nr_f rfl k⟩⟩⟩))⟩
    by_cases g : a = 0
    · exact ⟨3, c, _, fun mm K k => dA6 (br_t (show 1 ≤ c 16 w 2 by rw [hh]; exact c1) (nr_f g k)), fun C K k => hM C K (nr_f g k), by decide, FrC_r _ _, FrM_u mm 39 s (nI q) (by omega), fun e => absurd e (by decide)⟩
    · have d1 := in_div (b := a) (Rg_l x1)
      have d2 := in_div (b := a) (Rg_h x1)
      refine ⟨0, up3 (up3 c 17 w q (mn (c 17 w q / a) (c 18 w q / a))) 18 w q (mx (c 17 w q / a) (c 18 w q / a)), mput (up2 mm 39 s (nI q)) s q (mn (c 17 w q / a) (c 18 w q / a)) (mx (c 17 w q / a) (c 18 w q / a)), fun mm K k => dA6 ?_, fun C K k => hM C K (nr_t g ?_), by decide, ?_, ?_, fun _ => ⟨?_, q + 1, ?_⟩⟩
      · unfold V_X0_divideUpper
        simp only [forall_eq, hh, nI_pred, c3]
        exact br_t c1 (nr_t g ⟨c2, g, c2, g, c2, c2, k⟩)
      · refine ⟨l_ne g, mNear (tl_div (Rg_l x1)) ⟨l_ne g, mNear (tl_div (Rg_h x1)) ⟨fun e => ?_, fun e => ?_⟩⟩⟩
        · rw [nE_id d1, nE_id d2] at e ⊢
          refine mPush (h := q) hs (by simp [up2]) (by omega) ?_
          rw [mn_le e] at k
          have : mx (c 17 w q / a) (c 18 w q / a) = c 17 w q / a := by
            apply Int32.toInt_inj.mp
            rw [mx_t]
            have := i_le.mp e
            split <;> omega
          rw [this] at k
          exact k
        · rw [nE_id d1, nE_id d2] at e ⊢
          refine mPush (h := q) hs (by simp [up2]) (by omega) ?_
          rw [mn_nle e] at k
          have : mx (c 17 w q / a) (c 18 w q / a) = c 18 w q / a := by
            apply Int32.toInt_inj.mp
            rw [mx_t]
            have := i_lt.mp (i_nle.mp e)
            split <;> omega
          rw [this] at k
          exact k
      · exact FrC_t (FrC_u c 17 q _ (by decide) (by decide)) (FrC_u _ 18 q _ (by decide) (by decide))
      · exact FrM_t (FrM_u mm 39 s (nI q) (by omega)) (FrM_put (by omega))
      · intro i hi
        simpa [mput, up3, up2] using hR i hi
      · refine ⟨h3, by simpa [up3] using hh, by simp [mput, up2], fun i hi => ?_⟩
        by_cases e : i = q
        · subst e
          have : Rg (mn (c 17 w i / a) (c 18 w i / a)) (mx (c 17 w i / a) (c 18 w i / a)) := Rg_of (mn_mx _ _) (mn_in d1 d2) (mx_in d1 d2)
          simpa [mput, up3, up2] using this
        · have := hS.2.2.2 i (by omega)
          simpa [mput, up3, up2, e] using this
/-- one act -/
theorem act_sim {k : Nat} (hk : k ≤ 9) (h0 : k = 0 → inE a ∧ inE b) (hs : s < 10) (hj : j < 8) (h35 : mm 35 (8 * s + j) = nI k) (h36 : mm 36 (8 * s + j) = a) (h37 : mm 37 (8 * s + j) = b) (hF : FactR (c 2 0) (c 3 0) (c 4 0) (mm 30) (mm 31)) (hS : StR c mm w s h) (hR : RowR c mm w s) : Act2 (V_X0_doAct w (nI k) a b) (V_X8_work (nI s) (nI j)) c r mm w s := by
  have e : k = 0 ∨ k = 1 ∨ k = 2 ∨ k = 3 ∨ k = 4 ∨ k = 5 ∨ k = 6 ∨ k = 7 ∨ k = 8 ∨ k = 9 := by omega
  rcases e with rfl | rfl | rfl | rfl | rfl | rfl | rfl | rfl | rfl | rfl
  · exact act0 hs hj h35 h36 h37 (h0 rfl).1 (h0 rfl).2 hS hR
  · exact act1 hs hj h35 h36 hF hS hR
  · exact act2 hs hj h35 hS hR
  · exact act3 hs hj h35 hS hR
  · exact act4 hs hj h35 hS hR
  · exact act5 hs hj h35 hS hR
  · exact act6 hs hj h35 h36 hS hR
  · exact act7 hs hj h35 hS hR
  · exact act8 hs hj h35 h36 hS hR
  · exact act9 hs hj h35 h36 hS hR
end
