/-! THE ANSWERS ARE JOINED -/
theorem mBound {j : Nat} (hj : j ≤ 8) {m : MW} {K : Int32 → MW → Prop} (k : K (bnd j) m) : V_X8_bound (nI j) m K := by
  unfold V_X8_bound
  rcases (show j = 0 ∨ j = 1 ∨ j = 2 ∨ j = 3 ∨ j = 4 ∨ j = 5 ∨ j = 6 ∨ j = 7 ∨ j = 8 by omega) with rfl | rfl | rfl | rfl | rfl | rfl | rfl | rfl | rfl
  · exact nr_f rfl k
  · exact nr_t (by decide) (nr_f rfl k)
  · exact nr_t (by decide) (nr_t (by decide) (nr_f rfl k))
  · exact nr_t (by decide) (nr_t (by decide) (nr_t (by decide) (nr_f rfl k)))
  · exact nr_t (by decide) (nr_t (by decide) (nr_t (by decide) (nr_t (by decide) (nr_f rfl k))))
  · exact nr_t (by decide) (nr_t (by decide) (nr_t (by decide) (nr_t (by decide) (nr_t (by decide) (nr_f rfl k)))))
  · exact nr_t (by decide) (nr_t (by decide) (nr_t (by decide) (nr_t (by decide) (nr_t (by decide) (nr_t (by decide) (nr_f rfl k))))))
  · exact nr_t (by decide) (nr_t (by decide) (nr_t (by decide) (nr_t (by decide) (nr_t (by decide) (nr_t (by decide) (nr_t (by decide) (nr_f rfl k)))))))
  · exact nr_t (by decide) (nr_t (by decide) (nr_t (by decide) (nr_t (by decide) (nr_t (by decide) (nr_t (by decide) (nr_t (by decide) (nr_t (by decide) k)))))))
theorem bnd_in : ∀ j, j ≤ 8 → inE (bnd j) := by
  intro j hj
  rcases (show j = 0 ∨ j = 1 ∨ j = 2 ∨ j = 3 ∨ j = 4 ∨ j = 5 ∨ j = 6 ∨ j = 7 ∨ j = 8 by omega) with rfl | rfl | rfl | rfl | rfl | rfl | rfl | rfl | rfl <;> exact ⟨by decide, by decide⟩
def LowV (x a v : Int32) : Prop := (x = 0 ∧ v = a) ∨ (x = 1 ∧ ∃ j, j ≤ 8 ∧ v = bnd j ∧ bnd j ≤ a ∧ ∀ q, j < q → q ≤ 8 → a < bnd q)
def HiV (x b v : Int32) : Prop := (x = 0 ∧ v = b) ∨ (x = 1 ∧ ∃ j, j ≤ 8 ∧ v = bnd j ∧ b ≤ bnd j ∧ ∀ q, q < j → bnd q < b)
theorem low_ex {x a : Int32} (hx : x = 0 ∨ x = 1) (ha : inE a) : ∃ v, LowV x a v ∧ v ≤ a ∧ inE v := by
  rcases hx with h | h
  · exact ⟨a, Or.inl ⟨h, rfl⟩, i_le.mpr (by omega), ha⟩
  · have key : ∀ i, i ≤ 8 → (∀ q, i < q → q ≤ 8 → a < bnd q) → ∃ j, j ≤ 8 ∧ bnd j ≤ a ∧ ∀ q, j < q → q ≤ 8 → a < bnd q := by
      intro i
      induction i with
      | zero => intro _ hq; exact ⟨0, by omega, ha.1, hq⟩
      | succ i ih =>
        intro hi hq
        by_cases z : bnd (i + 1) ≤ a
        · exact ⟨i + 1, hi, z, hq⟩
        · refine ih (by omega) (fun q h1 h2 => ?_)
          by_cases e : q = i + 1
          · rw [e]; exact i_nle.mp z
          · exact hq q (by omega) h2
    obtain ⟨j, a1, a2, a3⟩ := key 8 (by omega) (fun q h1 h2 => by omega)
    exact ⟨bnd j, Or.inr ⟨h, j, a1, rfl, a2, a3⟩, a2, bnd_in j a1⟩
theorem hi_ex {x b : Int32} (hx : x = 0 ∨ x = 1) (hb : inE b) : ∃ v, HiV x b v ∧ b ≤ v ∧ inE v := by
  rcases hx with h | h
  · exact ⟨b, Or.inl ⟨h, rfl⟩, i_le.mpr (by omega), hb⟩
  · have key : ∀ d i, i + d = 8 → (∀ q, q < i → bnd q < b) → ∃ j, j ≤ 8 ∧ b ≤ bnd j ∧ ∀ q, q < j → bnd q < b := by
      intro d
      induction d with
      | zero => intro i hi hq; exact ⟨8, by omega, hb.2, fun q h => hq q (by omega)⟩
      | succ d ih =>
        intro i hi hq
        by_cases z : b ≤ bnd i
        · exact ⟨i, by omega, z, hq⟩
        · refine ih (i + 1) (by omega) (fun q h1 => ?_)
          by_cases e : q = i
          · rw [e]; exact i_nle.mp z
          · exact hq q (by omega)
    obtain ⟨j, a1, a2, a3⟩ := key 8 0 (by omega) (fun q h1 => by omega)
    exact ⟨bnd j, Or.inr ⟨h, j, a1, rfl, a2, a3⟩, a2, bnd_in j a1⟩
theorem nI_m1 (i : Nat) : nI (i + 1) + -1 = nI i := by
  rw [← nI_pred i, Int32.sub_eq_add_neg]
theorem cBelow {a : Int32} {j : Nat} (hj : j ≤ 8) (h1 : bnd j ≤ a) (h2 : ∀ q, j < q → q ≤ 8 → a < bnd q) {m : MW} {K : Int32 → MW → Prop} (k : K (bnd j) m) : V_X2_boundBelow a m K := by
  have key : ∀ d, j + d ≤ 8 → V_X2_boundBelow_7 (d + 1) a (nI (j + d)) m K := by
    intro d
    induction d with
    | zero =>
      intro _
      have hc : (nI (j + 0)).toNatClampNeg = j := nI_cl (by omega)
      refine br_f (nlt0 (by omega)) ⟨vin (by omega) (by decide), br_f ?_ ⟨vin (by omega) (by decide), ?_⟩⟩
      · rw [hc]; exact i_nlt.mpr h1
      · rw [hc]; exact k
    | succ d ih =>
      intro hd
      have hc : (nI (j + (d + 1))).toNatClampNeg = j + (d + 1) := nI_cl (by omega)
      refine br_f (nlt0 (by omega)) ⟨vin (by omega) (by decide), br_t ?_ ?_⟩
      · rw [hc]; exact h2 _ (by omega) hd
      · rw [show nI (j + (d + 1)) + -1 = nI (j + d) from nI_m1 (j + d)]
        exact ih (by omega)
  have := key (8 - j) (by omega)
  rw [show j + (8 - j) = 8 by omega] at this
  exact ⟨_, this⟩
theorem cAbove {b : Int32} {j : Nat} (hj : j ≤ 8) (h1 : b ≤ bnd j) (h2 : ∀ q, q < j → bnd q < b) {m : MW} {K : Int32 → MW → Prop} (k : K (bnd j) m) : V_X2_boundAbove b m K := by
  have key : ∀ d i, i + d = j → V_X2_boundAbove_2 (d + 1) b (nI i) m K := by
    intro d
    induction d with
    | zero =>
      intro i hi
      have : i = j := by omega
      subst this
      have hc : (nI i).toNatClampNeg = i := nI_cl (by omega)
      refine br_f (fun g => by have := (nI_leL (a := 9) (by omega) (by omega)).mp g; omega) ⟨vin (by omega) (by decide), br_f ?_ ⟨vin (by omega) (by decide), ?_⟩⟩
      · rw [hc]; exact i_nlt.mpr h1
      · rw [hc]; exact k
    | succ d ih =>
      intro i hi
      have hc : (nI i).toNatClampNeg = i := nI_cl (by omega)
      refine br_f (fun g => by have := (nI_leL (a := 9) (by omega) (by omega)).mp g; omega) ⟨vin (by omega) (by decide), br_t ?_ ?_⟩
      · rw [hc]; exact h2 _ (by omega)
      · rw [nI_1]; exact ih (i + 1) (by omega)
  exact ⟨j + 1, key j 0 (by omega)⟩
section
variable {c : Nat → Nat → Nat → Int32} {r : Nat → Nat → Option Nat} {mm : MM} {C : MC} {s f : Nat} {x a b v y1 y5 z : Int32} {K : Int32 → MW → Prop}
theorem c76 (hf : f < 10) (h7 : c 11 s 7 = a) (hv : LowV x a v) {y4 y6 : Int32} (h4 : ¬ y4 = 0) (k : V_X2_join_107 s x (nI f) y4 y6 ((up3 c 3 0 f v, r), mm) K) : V_X2_join_76 s x (nI f) y4 y6 ((c, r), mm) K := by
  have hc : (nI f).toNatClampNeg = f := nI_cl (by omega)
  refine br_f h4 ?_
  rcases hv with ⟨hx, rfl⟩ | ⟨hx, j, j1, rfl, j2, j3⟩
  · refine br_t hx ⟨vin hf (by decide), fun m e => ?_⟩
    subst e
    rw [hc]
    rw [show ((c, r), mm).1.1 11 s 7 = v from h7]
    exact k
  · refine br_f (by rw [hx]; decide) ?_
    rw [show ((c, r), mm).1.1 11 s 7 = a from h7]
    refine cBelow j1 j2 j3 ⟨vin hf (by decide), fun m e => ?_⟩
    subst e
    rw [hc]; exact k
theorem c107 (hf : f < 10) (h8 : c 11 s 8 = b) (hv : HiV x b v) {y4 y6 : Int32} (h4 : ¬ y6 = 0) (k : V_X2_join_136 s x (nI f) y4 y6 ((up3 c 4 0 f v, r), mm) K) : V_X2_join_107 s x (nI f) y4 y6 ((c, r), mm) K := by
  have hc : (nI f).toNatClampNeg = f := nI_cl (by omega)
  refine br_f h4 ?_
  rcases hv with ⟨hx, rfl⟩ | ⟨hx, j, j1, rfl, j2, j3⟩
  · refine br_t hx ⟨vin hf (by decide), fun m e => ?_⟩
    subst e
    rw [hc]
    rw [show ((c, r), mm).1.1 11 s 8 = v from h8]
    exact k
  · refine br_f (by rw [hx]; decide) ?_
    rw [show ((c, r), mm).1.1 11 s 8 = b from h8]
    refine cAbove j1 j2 j3 ⟨vin hf (by decide), fun m e => ?_⟩
    subst e
    rw [hc]; exact k
theorem m105 (hf : f < 10) (h : a < mm 30 f) (hv : LowV x a v) (k : V_X8_join_162 y1 x (nI f) a b z (C, up2 mm 30 f v) K) : V_X8_join_105 y1 x (nI f) a b z (C, mm) K := by
  have hc : (nI f).toNatClampNeg = f := nI_cl (by omega)
  refine ⟨vin hf (by decide), br_f (by rw [hc]; exact i_nle.mpr h) ?_⟩
  rcases hv with ⟨hx, rfl⟩ | ⟨hx, j, j1, rfl, j2, j3⟩
  · refine ⟨1, br_t hx (br_t hx ⟨vin hf (by decide), fun m e => ?_⟩)⟩
    subst e
    rw [hc]; exact k
  · have hx0 : ¬ x = 0 := by rw [hx]; decide
    have key : ∀ d, j + d ≤ 8 → V_X8_join_122 (d + 1) y1 x (nI f) a b z (nI (j + d)) (C, mm) K := by
      intro d
      induction d with
      | zero =>
        intro _
        refine br_f hx0 (mBound (j := j) j1 (br_t j2 (br_f hx0 (mBound (j := j) j1 ⟨vin hf (by decide), fun m e => ?_⟩))))
        subst e
        rw [hc]; exact k
      | succ d ih =>
        intro hd
        refine br_f hx0 (mBound hd (br_f (i_nle.mpr (j3 _ (by omega) hd)) ?_))
        rw [show nI (j + (d + 1)) + -1 = nI (j + d) from nI_m1 (j + d)]
        exact ih (by omega)
    have := key (8 - j) (by omega)
    rw [show j + (8 - j) = 8 by omega] at this
    exact ⟨_, this⟩
theorem m162 (hf : f < 10) (h : mm 31 f < b) (hv : HiV x b v) (hz : z = 0 ∨ z = 1) (k : K z (C, up2 mm 31 f v)) : V_X8_join_162 y1 x (nI f) a b z (C, mm) K := by
  have hc : (nI f).toNatClampNeg = f := nI_cl (by omega)
  refine ⟨vin hf (by decide), br_f (by rw [hc]; exact i_nle.mpr h) ?_⟩
  rcases hv with ⟨hx, rfl⟩ | ⟨hx, j, j1, rfl, j2, j3⟩
  · refine ⟨1, br_t hx (br_t hx ⟨vin hf (by decide), fun m e => ⟨hz, ?_⟩⟩)⟩
    subst e
    rw [hc]; exact k
  · have hx0 : ¬ x = 0 := by rw [hx]; decide
    have key : ∀ d i, i + d = j → V_X8_join_176 (d + 1) y1 x (nI f) a b z (nI i) (C, mm) K := by
      intro d
      induction d with
      | zero =>
        intro i hi
        have : i = j := by omega
        subst this
        refine br_f hx0 (mBound j1 (br_t j2 (br_f hx0 (mBound j1 ⟨vin hf (by decide), fun m e => ⟨hz, ?_⟩⟩))))
        subst e
        rw [hc]; exact k
      | succ d ih =>
        intro i hi
        refine br_f hx0 (mBound (by omega) (br_f (i_nle.mpr (j3 _ (by omega))) ?_))
        rw [nI_1]
        exact ih (i + 1) (by omega)
    exact ⟨j + 1, key j 0 (by omega)⟩
end
def Ans (c : Nat → Nat → Nat → Int32) (mm : MM) (s : Nat) : Prop := ∃ d, d < 3 ∧ mm 39 s = nI (d + 1) ∧ Rg (mm 40 (3 * s + d)) (mm 41 (3 * s + d)) ∧ c 11 s 7 = mm 40 (3 * s + d) ∧ c 11 s 8 = mm 41 (3 * s + d)
theorem join_sim {c : Nat → Nat → Nat → Int32} {r : Nat → Nat → Option Nat} {mm : MM} {s f : Nat} {x : Int32} (hx : x = 0 ∨ x = 1) (hs : s < 10) (hf : f < 10) (h3 : c 11 s 3 = nI f) (h33 : mm 33 s = nI f) (hA : Ans c mm s) (hF : FactR (c 2 0) (c 3 0) (c 4 0) (mm 30) (mm 31)) :
    ∃ v c' mm', (v = 0 ∨ v = 1) ∧ Ci (V_X2_join s x) (c, r) v (c', r) ∧ Mi (V_X8_join (nI s) x) mm v mm' ∧ FactR (c' 2 0) (c' 3 0) (c' 4 0) (mm' 30) (mm' 31) ∧ (∀ k, k ≠ 2 → k ≠ 3 → k ≠ 4 → c' k = c k) ∧ (∀ k, k ≠ 30 → k ≠ 31 → mm' k = mm k) := by
  obtain ⟨d, d1, d2, d3, d4, d5⟩ := hA
  have hc : (nI f).toNatClampNeg = f := nI_cl (by omega)
  have hcs : (nI s).toNatClampNeg = s := nI_cl (by omega)
  have hvf : vp_in (nI f) 10 := vin hf (by decide)
  have hvs : vp_in (nI s) 10 := vin hs (by decide)
  have a8 : nI (3 * s + (d + 1)) - 1 = nI (3 * s + d) := nI_pred (3 * s + d)
  have a6 : (nI (3 * s + d)).toNatClampNeg = 3 * s + d := nI_cl (by omega)
  have a7 : vp_in (nI (3 * s + d)) 30 := vin (by omega) (by decide)
  generalize ha : mm 40 (3 * s + d) = a at d3 d4
  generalize hb : mm 41 (3 * s + d) = b at d3 d5
  have ia : inE a := Rg_l d3
  have ib : inE b := Rg_h d3
  have hM : ∀ C K, ((mm 30 f ≤ mm 31 f → (a < mm 30 f → V_X8_join_105 (nI s) x (nI f) a b 1 (C, mm) K) ∧ (¬ a < mm 30 f → (b ≤ mm 31 f → V_X8_join_105 (nI s) x (nI f) a b 0 (C, mm) K) ∧ (¬ b ≤ mm 31 f → V_X8_join_105 (nI s) x (nI f) a b 1 (C, mm) K))) ∧ (¬ mm 30 f ≤ mm 31 f → K 1 (C, up2 (up2 mm 30 f a) 31 f b))) → V_X8_join (nI s) x (C, mm) K := by
    intro C K k
    unfold V_X8_join
    simp only [forall_eq, hcs, d2, ix3, a8, a6, ha, hb, h33, hc]
    refine ⟨hvs, hvs, a7, hvs, a7, hvf, hvf, fun q => ⟨hvf, (k.1 q).1, fun q2 => ⟨hvf, ((k.1 q).2 q2).1, ((k.1 q).2 q2).2⟩⟩, fun q => ⟨hvf, hvf, k.2 q⟩⟩
  rcases hF f hf with ⟨b1, b2, b3, b4⟩ | ⟨b1, b2⟩
  · have hle : mm 30 f ≤ mm 31 f := by rw [← b2, ← b3]; exact b4.1
    have hC : ∀ mm K, ((c 3 0 f ≤ a → V_X2_join_56 s x (nI f) 0 ((c, r), mm) K) ∧ (¬ c 3 0 f ≤ a → V_X2_join_56 s x (nI f) 1 ((c, r), mm) K)) → V_X2_join s x ((c, r), mm) K := by
      intro mm K k
      unfold V_X2_join
      simp only [h3, hc, d4]
      refine cFact1 hf (nr_t (by decide) ⟨hvf, nr_t (show ¬ c 2 0 f = 0 by rw [b1]; decide) ⟨hvf, ?_⟩⟩)
      simp only [d4]
      exact k
    have h56 : ∀ mm K z0, ((b ≤ c 4 0 f → V_X2_join_76 s x (nI f) z0 0 ((c, r), mm) K) ∧ (¬ b ≤ c 4 0 f → V_X2_join_76 s x (nI f) z0 1 ((c, r), mm) K)) → V_X2_join_56 s x (nI f) z0 ((c, r), mm) K := by
      intro mm K z0 k
      unfold V_X2_join_56
      simp only [hc, d5]
      exact ⟨hvf, k⟩
    obtain ⟨vl, l1, l2, l3⟩ := low_ex hx ia
    obtain ⟨vh, g1, g2, g3⟩ := hi_ex hx ib
    have tlo := i_le.mp b4.1
    have ta := i_le.mp d3.1
    have il : inE (c 3 0 f) := Rg_l b4
    have ih : inE (c 4 0 f) := Rg_h b4
    have hfr : ∀ (q : Nat), q < 10 → q ≠ f → (c 2 0 q = 1 ∧ c 3 0 q = mm 30 q ∧ c 4 0 q = mm 31 q ∧ Rg (c 3 0 q) (c 4 0 q)) ∨ (c 2 0 q = 0 ∧ mm 31 q < mm 30 q) := fun q hq _ => hF q hq
    by_cases e1 : a < c 3 0 f
    · have e1' : ¬ c 3 0 f ≤ a := i_nle.mpr e1
      have e1m : a < mm 30 f := by rw [← b2]; exact e1
      by_cases e2 : b ≤ c 4 0 f
      · -- the low end alone
        have e2m : b ≤ mm 31 f := by rw [← b3]; exact e2
        refine ⟨1, up3 c 3 0 f vl, up2 mm 30 f vl, Or.inr rfl, fun mm K k => hC mm K (br_f e1' (h56 mm K 1 (br_t e2 (c76 hf d4 l1 (by decide) (br_t rfl (nr_t (by decide) k)))))), fun C K k => hM C K (br_t hle (br_t e1m (m105 hf e1m l1 ⟨hvf, br_t ?_ ⟨Or.inr rfl, k⟩⟩))), fun q hq => ?_, fun k _ _ _ => up3_kn (by assumption), fun k _ _ => up2_ne (by assumption)⟩
        · rw [hc]; show b ≤ up2 mm 30 f vl 31 f; simpa [up2] using e2m
        · by_cases z : q = f
          · subst z
            left
            have : Rg vl (c 4 0 q) := Rg_of (by have := i_le.mp l2; have := i_lt.mp e1; exact i_le.mpr (by omega)) l3 ih
            simpa [up3, up2, b1, b3] using by simpa [b3] using this
          · have := hfr q hq z
            simpa [up3, up2, z] using this
      · have e2' : c 4 0 f < b := i_nle.mp e2
        have e2m : mm 31 f < b := by rw [← b3]; exact e2'
        refine ⟨1, up3 (up3 c 3 0 f vl) 4 0 f vh, up2 (up2 mm 30 f vl) 31 f vh, Or.inr rfl, fun mm K k => hC mm K (br_f e1' (h56 mm K 1 (br_f e2 (c76 hf d4 l1 (by decide) (c107 hf (by simpa [up3] using d5) g1 (by decide) (nr_t (by decide) k)))))), fun C K k => hM C K (br_t hle (br_t e1m (m105 hf e1m l1 (m162 hf (by simpa [up2] using e2m) g1 (Or.inr rfl) k)))), fun q hq => ?_, fun k _ _ _ => by rw [up3_kn (by assumption), up3_kn (by assumption)], fun k _ _ => by rw [up2_ne (by assumption), up2_ne (by assumption)]⟩
        by_cases z : q = f
        · subst z
          left
          have : Rg vl vh := Rg_of (by have := i_le.mp l2; have := i_le.mp g2; exact i_le.mpr (by omega)) l3 g3
          simpa [up3, up2, b1] using this
        · have := hfr q hq z
          simpa [up3, up2, z] using this
    · have e1' : c 3 0 f ≤ a := i_nlt.mp e1
      have e1m : ¬ a < mm 30 f := by rw [← b2]; exact e1
      have e1n : mm 30 f ≤ a := i_nlt.mp e1m
      by_cases e2 : b ≤ c 4 0 f
      · have e2m : b ≤ mm 31 f := by rw [← b3]; exact e2
        refine ⟨0, c, mm, Or.inl rfl, fun mm K k => hC mm K (br_t e1' (h56 mm K 0 (br_t e2 (br_t rfl (br_t rfl (nr_f rfl (br_t rfl k))))))), fun C K k => hM C K (br_t hle (br_f e1m (br_t e2m ⟨hvf, br_t ?_ ⟨hvf, br_t ?_ ⟨Or.inl rfl, k⟩⟩⟩))), hF, fun k _ _ _ => rfl, fun k _ _ => rfl⟩
        · rw [hc]; exact e1n
        · rw [hc]; exact e2m
      · have e2' : c 4 0 f < b := i_nle.mp e2
        have e2m : mm 31 f < b := by rw [← b3]; exact e2'
        refine ⟨1, up3 c 4 0 f vh, up2 mm 31 f vh, Or.inr rfl, fun mm K k => hC mm K (br_t e1' (h56 mm K 0 (br_f e2 (br_t rfl (c107 hf d5 g1 (by decide) (nr_f rfl (br_f (by decide) k))))))), fun C K k => hM C K (br_t hle (br_f e1m (br_f (i_nle.mpr e2m) ⟨hvf, br_t ?_ (m162 hf e2m g1 (Or.inr rfl) k)⟩))), fun q hq => ?_, fun k _ _ _ => up3_kn (by assumption), fun k _ _ => up2_ne (by assumption)⟩
        · rw [hc]; exact e1n
        · by_cases z : q = f
          · subst z
            left
            have : Rg (c 3 0 q) vh := Rg_of (by have := i_le.mp g2; have := i_lt.mp e2'; exact i_le.mpr (by omega)) il g3
            simpa [up3, up2, b1, b2] using by simpa [b2] using this
          · have := hfr q hq z
            simpa [up3, up2, z] using this
  · have hle : ¬ mm 30 f ≤ mm 31 f := i_nle.mpr b2
    refine ⟨1, up3 (up3 (up3 c 2 0 f 1) 3 0 f a) 4 0 f b, up2 (up2 mm 30 f a) 31 f b, Or.inr rfl, fun mm K k => ?_, fun C K k => hM C K (br_f hle k), fun q hq => ?_, fun k _ _ _ => by rw [up3_kn (by assumption), up3_kn (by assumption), up3_kn (by assumption)], fun k _ _ => by rw [up2_ne (by assumption), up2_ne (by assumption)]⟩
    · unfold V_X2_join
      simp only [h3, hc, d4]
      refine cFact1 hf (nr_t (by decide) ⟨hvf, nr_f b1 (cFact1 hf (nr_t (by decide) ⟨hvf, fun m1 q1 => ⟨hvf, fun m2 q2 => ⟨hvf, fun m3 q3 => ?_⟩⟩⟩))⟩)
      subst q1; subst q2; subst q3
      simp only [hc, d4, d5]
      exact k
    · by_cases z : q = f
      · subst z
        left
        simpa [up3, up2] using d3
      · have := hF q hq
        simpa [up3, up2, z] using this
