theorem cShare1 {i ns : Nat} (hi : i < ns) (hn : ns ≤ 10) {m : MW} (h : m.1.1 0 0 5 = nI ns) {K : Int32 → MW → Prop} (k : K 1 m) : V_X7_isShare (nI i) m K := br_f (nlt0 (by omega)) (br_f (by rw [h]; exact nI_ge hi (by omega)) k)
theorem cShare0 {x : Int32} {ns : Nat} {m : MW} (h : m.1.1 0 0 5 = nI ns) (hx : x < 0 ∨ ¬ x < 0 ∧ nI ns ≤ x) {K : Int32 → MW → Prop} (k : K 0 m) : V_X7_isShare x m K := by
  rcases hx with hx | ⟨hx, h2⟩
  · exact br_t hx k
  · exact br_f hx (br_t (by rw [h]; exact h2) k)
theorem mShare1 {i ns : Nat} (hi : i < ns) (hn : ns ≤ 10) {m : MW} (h : m.2 22 2 = nI ns) {K : Int32 → MW → Prop} (k : K 1 m) : V_X8_isShare (nI i) m K := br_f (nlt0 (by omega)) (br_f (by rw [h]; exact nI_ge hi (by omega)) k)
theorem mShare0 {x : Int32} {ns : Nat} {m : MW} (h : m.2 22 2 = nI ns) (hx : x < 0 ∨ ¬ x < 0 ∧ nI ns ≤ x) {K : Int32 → MW → Prop} (k : K 0 m) : V_X8_isShare x m K := by
  rcases hx with hx | ⟨hx, h2⟩
  · exact br_t hx k
  · exact br_f hx (br_t (by rw [h]; exact h2) k)
theorem ix8 (i j : Nat) : 8 * nI i + nI j = nI (8 * i + j) := by rw [show (8 : Int32) = nI 8 from rfl, pk_mul, nI_add]
theorem ix3 (i j : Nat) : 3 * nI i + nI j = nI (3 * i + j) := by rw [show (3 : Int32) = nI 3 from rfl, pk_mul, nI_add]
theorem sim_doer (x : Int32) : Sim (V_X7_doer x) (V_X8_doer x) := by
  rintro ⟨c, r⟩ mm ⟨ns, hB, hr⟩
  have hno : ∀ u, (Ci (V_X7_doer x) (c, r) u (c, r) ∧ Mi (V_X8_doer x) mm u mm) → ∃ v c' mm', Ci (V_X7_doer x) (c, r) v c' ∧ Mi (V_X8_doer x) mm v mm' ∧ RR c' mm' := fun u h => ⟨_, _, _, h.1, h.2, ns, hB, hr⟩
  have h1 : c 0 0 5 = nI ns := hB.1
  have hns : ns ≤ 10 := hB.2.2.1.1
  rcases ix x ns (by omega) with h | ⟨i, hi, rfl⟩
  · exact hno _ ⟨fun mm K k => cShare0 h1 h (br_t rfl k), fun c K k => mShare0 hB.2.1 h (br_t rfl k)⟩
  · have hc : (nI i).toNatClampNeg = i := nI_cl (by omega)
    have h18 : c 11 i 5 = mm 45 i := hB.2.2.2.2.2.2.2.2.2.2.2.2.2.2.2.2.2 i (by omega)
    refine hno (c 11 i 5) ⟨fun mm K k => cShare1 hi hns h1 (br_f (by decide) ⟨vin (by omega) (by decide), ?_⟩), fun c' K k => mShare1 hi hns hB.2.1 (br_f (by decide) ⟨vin (by omega) (by decide), ?_⟩)⟩
    · rw [hc]; exact k
    · rw [hc]; rw [h18] at k; exact k
theorem cAdd {c : Nat → Nat → Nat → Int32} {r : Nat → Nat → Option Nat} {i na : Nat} {s x y : Int32} (hna : na < 8) (h : c 11 i 4 = nI na) : Ci (V_X4_addAct i s x y) (c, r) 1 (up3 (up3 (up3 (up3 c 12 i na s) 13 i na x) 14 i na y) 11 i 4 (nI (na + 1)), r) := by
  intro mm K k
  have hc : (nI na).toNatClampNeg = na := nI_cl (by omega)
  have l1 : nI na < 8 := (nI_ltL (b := 8) (by omega) (by omega)).mpr hna
  have vi := vin hna (by decide)
  refine br_t (show c 11 i 4 < 8 by rw [h]; exact l1) ⟨show vp_in (c 11 i 4) 8 by rw [h]; exact vi, fun m1 e1 => ?_⟩
  subst e1
  have g1 : up3 c 12 i (c 11 i 4).toNatClampNeg s 11 i 4 = nI na := by rw [← h]; simp [up3]
  refine ⟨show vp_in (up3 c 12 i (c 11 i 4).toNatClampNeg s 11 i 4) 8 by rw [g1]; exact vi, fun m2 e2 => ?_⟩
  subst e2
  have g2 : up3 (up3 c 12 i (c 11 i 4).toNatClampNeg s) 13 i (up3 c 12 i (c 11 i 4).toNatClampNeg s 11 i 4).toNatClampNeg x 11 i 4 = nI na := by rw [← h]; simp [up3]
  refine ⟨show vp_in (up3 (up3 c 12 i (c 11 i 4).toNatClampNeg s) 13 i (up3 c 12 i (c 11 i 4).toNatClampNeg s 11 i 4).toNatClampNeg x 11 i 4) 8 by rw [g2]; exact vi, fun m3 e3 m4 e4 => ?_⟩
  subst e3; subst e4
  show K 1 ((up3 (up3 (up3 (up3 c 12 i (c 11 i 4).toNatClampNeg s) 13 i (up3 c 12 i (c 11 i 4).toNatClampNeg s 11 i 4).toNatClampNeg x) 14 i (up3 (up3 c 12 i (c 11 i 4).toNatClampNeg s) 13 i (up3 c 12 i (c 11 i 4).toNatClampNeg s 11 i 4).toNatClampNeg x 11 i 4).toNatClampNeg y) 11 i 4 (up3 (up3 (up3 c 12 i (c 11 i 4).toNatClampNeg s) 13 i (up3 c 12 i (c 11 i 4).toNatClampNeg s 11 i 4).toNatClampNeg x) 14 i (up3 (up3 c 12 i (c 11 i 4).toNatClampNeg s) 13 i (up3 c 12 i (c 11 i 4).toNatClampNeg s 11 i 4).toNatClampNeg x 11 i 4).toNatClampNeg y 11 i 4 + 1), r), mm)
  rw [g2, g1, h, hc]
  rw [show up3 (up3 (up3 c 12 i na s) 13 i na x) 14 i na y 11 i 4 = nI na from by rw [← h]; simp [up3], nI_1]
  exact k
theorem sim_act (x s a b : Int32) : Sim (V_X7_act x s a b) (V_X8_act x s a b) := by
  rintro ⟨c, r⟩ mm ⟨ns, hB, hr⟩
  have hno : ∀ u, (Ci (V_X7_act x s a b) (c, r) u (c, r) ∧ Mi (V_X8_act x s a b) mm u mm) → ∃ v c' mm', Ci (V_X7_act x s a b) (c, r) v c' ∧ Mi (V_X8_act x s a b) mm v mm' ∧ RR c' mm' := fun u h => ⟨_, _, _, h.1, h.2, ns, hB, hr⟩
  have h1 : c 0 0 5 = nI ns := hB.1
  have hns : ns ≤ 10 := hB.2.2.1.1
  rcases ix x ns (by omega) with h | ⟨i, hi, rfl⟩
  · exact hno _ ⟨fun mm K k => cShare0 h1 h (nr_f rfl k), fun c K k => mShare0 hB.2.1 h (nr_f rfl k)⟩
  by_cases a1 : s < 0
  · exact hno _ ⟨fun mm K k => cShare1 hi hns h1 (nr_t (by decide) (br_t a1 k)), fun c K k => mShare1 hi hns hB.2.1 (nr_t (by decide) (br_t a1 k))⟩
  by_cases a2 : ¬ s ≤ 9
  · exact hno _ ⟨fun mm K k => cShare1 hi hns h1 (nr_t (by decide) (br_f a1 (br_f a2 k))), fun c K k => mShare1 hi hns hB.2.1 (nr_t (by decide) (br_f a1 (br_t (i_nle.mp a2) k)))⟩
  have a2 : s ≤ 9 := Classical.not_not.mp a2
  have a2' : ¬ 9 < s := i_nlt.mpr a2
  -- the part common to both sorts
  have hc : (nI i).toNatClampNeg = i := nI_cl (by omega)
  obtain ⟨na, b1, b2, b3, b4, b5⟩ := hB.2.2.1.2.1 i (by omega)
  have b2 : c 11 i 4 = nI na := b2
  have hadd : (s = 0 → inE a ∧ inE b) → ∃ v c' mm', (∀ (mm0 : MM) (K : Int32 → MW → Prop), K v (c', mm0) → (vp_in (nI i) 10 ∧ V_X4_addAct (nI i).toNatClampNeg s a b ((c, r), mm0) (fun v5 m4 => (v5 = 0 → K (-2000003) m4) ∧ (¬ v5 = 0 → (vp_in (nI i) 10 ∧ K (m4.1.1 11 (nI i).toNatClampNeg 4) m4))))) ∧ (∀ (c0 : MC) (K : Int32 → MW → Prop), K v (c0, mm') → (vp_in (nI i) 10 ∧ ((¬ (mm 34 (nI i).toNatClampNeg) = 8 → (vp_in (nI i) 10 ∧ (vp_in ((8 * nI i) + (mm 34 (nI i).toNatClampNeg)) 80 ∧ ∀ m3 : MW, m3 = (c0, up2 mm 35 (((8 * nI i) + (mm 34 (nI i).toNatClampNeg))).toNatClampNeg s) → (vp_in (nI i) 10 ∧ (vp_in ((8 * nI i) + (m3.2 34 (nI i).toNatClampNeg)) 80 ∧ ∀ m4 : MW, m4 = (m3.1, up2 m3.2 36 (((8 * nI i) + (m3.2 34 (nI i).toNatClampNeg))).toNatClampNeg a) → (vp_in (nI i) 10 ∧ (vp_in ((8 * nI i) + (m4.2 34 (nI i).toNatClampNeg)) 80 ∧ ∀ m5 : MW, m5 = (m4.1, up2 m4.2 37 (((8 * nI i) + (m4.2 34 (nI i).toNatClampNeg))).toNatClampNeg b) → (vp_in (nI i) 10 ∧ (vp_in (nI i) 10 ∧ ∀ m6 : MW, m6 = (m5.1, up2 m5.2 34 (nI i).toNatClampNeg ((m5.2 34 (nI i).toNatClampNeg) + 1)) → (vp_in (nI i) 10 ∧ (K (m6.2 34 (nI i).toNatClampNeg) m6))))))))))) ∧ ((mm 34 (nI i).toNatClampNeg) = 8 → (K (-2000003) (c0, mm)))))) ∧ RR c' mm' := by
    intro hput
    have vi := vin (show i < 10 by omega) (by decide)
    by_cases hna : na < 8
    · refine ⟨nI (na + 1), (up3 (up3 (up3 (up3 c 12 i na s) 13 i na a) 14 i na b) 11 i 4 (nI (na + 1)), r), up2 (up2 (up2 (up2 mm 35 (8 * i + na) s) 36 (8 * i + na) a) 37 (8 * i + na) b) 34 i (nI (na + 1)), fun mm0 K k => ⟨vi, ?_⟩, fun c0 K k => ⟨vi, nr_t ?_ ⟨vi, ?_, fun m3 e3 => ?_⟩⟩, ?_⟩
      · rw [hc]
        refine cAdd hna b2 mm0 _ (br_f (by decide) ⟨vi, ?_⟩)
        rw [show (((up3 (up3 (up3 (up3 c 12 i na s) 13 i na a) 14 i na b) 11 i 4 (nI (na + 1)), r), mm0) : MW).1.1 11 i 4 = nI (na + 1) from by simp [up3]]
        exact k
      · rw [hc, b3]; intro h; have := (nI_eqL (b := 8) (by omega) (by omega)).mp h; omega
      · rw [hc, b3, ix8]; exact vin (by omega) (by decide)
      · rw [hc, b3, ix8, nI_cl (by omega)] at e3
        have g3 : m3.2 34 i = nI na := by rw [e3, ← b3]; simp [up2]
        refine ⟨vi, by rw [hc, g3, ix8]; exact vin (by omega) (by decide), fun m4 e4 => ?_⟩
        rw [hc, g3, ix8, nI_cl (by omega)] at e4
        have g4 : m4.2 34 i = nI na := by rw [e4, ← g3]; simp [up2]
        refine ⟨vi, by rw [hc, g4, ix8]; exact vin (by omega) (by decide), fun m5 e5 => ?_⟩
        rw [hc, g4, ix8, nI_cl (by omega)] at e5
        have g5 : m5.2 34 i = nI na := by rw [e5, ← g4]; simp [up2]
        refine ⟨vi, vi, fun m6 e6 => ⟨vi, ?_⟩⟩
        rw [hc, g5, nI_1] at e6
        have g6 : m6.2 34 i = nI (na + 1) := by rw [e6]; simp [up2]
        rw [hc, g6, e6, e5, e4, e3]
        exact k
      · obtain ⟨h1, h2, h3, h4, h5, h6, h7, h8, h9, h10, h11, h12, h13, h14, h15, h16, h17, h18⟩ := hB
        refine ⟨ns, ⟨?_, ?_, ?_, ?_, ?_, ?_, ?_, ?_, ?_, ?_, ?_, ?_, ?_, ?_, ?_, ?_, ?_, ?_⟩, hr⟩
        · simpa [up3_kn, up2_ne, up3, up2] using h1
        · simpa [up3_kn, up2_ne, up3, up2] using h2
        · refine ⟨hns, fun q hq => ?_, fun q hq => ?_⟩
          · by_cases hqi : q = i
            · subst hqi
              refine ⟨na + 1, by omega, by simp [up3], by simp [up2], fun z => by omega, fun j hj => ?_⟩
              by_cases hjn : j = na
              · subst hjn
                refine ⟨?_, by simp [up3, up2], by simp [up3, up2], by simp [up3, up2]⟩
                obtain ⟨k, hk, e⟩ := (show ∃ k : Nat, k < 10 ∧ s = nI k from by
                  rcases ix s 10 (by decide) with h | h
                  · rcases h with h | ⟨_, h⟩
                    · exact absurd h a1
                    · exact absurd (show (10 : Int32) ≤ s from h) (fun h => by have := i_le.mp h; have h2 := i_le.mp a2; rw [show (10 : Int32).toInt = 10 from by decide] at this; rw [show (9 : Int32).toInt = 9 from by decide] at h2; omega)
                  · exact h)
                refine ⟨k, by omega, by simpa [up3] using e, fun h0 => ?_⟩
                have := hput (by rw [e, h0]; rfl)
                simpa [up3] using this
              · have := b5 j (by omega)
                have n1 : 8 * q + j ≠ 8 * q + na := by omega
                simpa [up3_kn, up3, up2, hjn, n1] using this
            · obtain ⟨na', d1, d2, d3, d4, d5⟩ := h3.2.1 q hq
              refine ⟨na', d1, by simpa [up3, hqi] using d2, by simpa [up2, hqi] using d3, d4, fun j hj => ?_⟩
              have n1 : 8 * q + j ≠ 8 * i + na := by omega
              have := d5 j hj
              simpa [up3_kn, up3, up2, hqi, n1] using this
          · obtain ⟨f', d1, d2, d3⟩ := h3.2.2 q hq
            exact ⟨f', d1, by simpa [up3] using d2, by simpa [up2] using d3⟩
        · simpa [up3_kn, up2_ne, up3, up2] using h4
        · simpa [up3_kn, up2_ne, up3, up2] using h5
        · simpa [up3_kn, up2_ne, up3, up2] using h6
        · simpa [up3_kn, up2_ne, up3, up2] using h7
        · simpa [up3_kn, up2_ne, up3, up2] using h8
        · simpa [up3_kn, up2_ne, up3, up2] using h9
        · simpa [up3_kn, up2_ne, up3, up2] using h10
        · simpa [up3_kn, up2_ne, up3, up2] using h11
        · simpa [up3_kn, up2_ne, up3, up2] using h12
        · simpa [up3_kn, up2_ne, up3, up2] using h13
        · simpa [up3_kn, up2_ne, up3, up2] using h14
        · simpa [up3_kn, up2_ne, up3, up2] using h15
        · simpa [up3_kn, up2_ne, up3, up2] using h16
        · simpa [up3_kn, up2_ne, up3, up2] using h17
        · simpa [up3_kn, up2_ne, up3, up2] using h18
    · have e8 : na = 8 := by omega
      subst e8
      refine ⟨-2000003, (c, r), mm, fun mm0 K k => ⟨vi, ?_⟩, fun c0 K k => ⟨vi, nr_f ?_ k⟩, ns, hB, hr⟩
      · rw [hc]
        exact br_f (show ¬ c 11 i 4 < 8 by rw [b2]; decide) (br_t rfl k)
      · rw [hc, b3]; rfl
  by_cases a3 : s = 0
  · by_cases a4 : inE a
    · by_cases a5 : inE b
      · obtain ⟨v, c', mm', p1, p2, p3⟩ := hadd (fun _ => ⟨a4, a5⟩)
        refine ⟨v, c', mm', fun mm0 K k => cShare1 hi hns h1 (nr_t (by decide) (br_f a1 (br_t a2 (nr_f a3 (cEnd1 a4 (br_f (by decide) (cEnd1 a5 (nr_t (by decide) (p1 mm0 K k)))))))) ), fun c0 K k => mShare1 hi hns hB.2.1 (nr_t (by decide) (br_f a1 (br_f a2' (nr_f a3 (mEnd1 a4 (br_f (by decide) (mEnd1 a5 (nr_t (by decide) (p2 c0 K k)))))))) ), p3⟩
      · exact hno _ ⟨fun mm K k => cShare1 hi hns h1 (nr_t (by decide) (br_f a1 (br_t a2 (nr_f a3 (cEnd1 a4 (br_f (by decide) (cEnd0 a5 (nr_f rfl k)))))))), fun c K k => mShare1 hi hns hB.2.1 (nr_t (by decide) (br_f a1 (br_f a2' (nr_f a3 (mEnd1 a4 (br_f (by decide) (mEnd0 a5 (nr_f rfl k))))))))⟩
    · exact hno _ ⟨fun mm K k => cShare1 hi hns h1 (nr_t (by decide) (br_f a1 (br_t a2 (nr_f a3 (cEnd0 a4 (br_t rfl k)))))), fun c K k => mShare1 hi hns hB.2.1 (nr_t (by decide) (br_f a1 (br_f a2' (nr_f a3 (mEnd0 a4 (br_t rfl k))))))⟩
  · obtain ⟨v, c', mm', p1, p2, p3⟩ := hadd (fun h => absurd h a3)
    exact ⟨v, c', mm', fun mm0 K k => cShare1 hi hns h1 (nr_t (by decide) (br_f a1 (br_t a2 (nr_t a3 (p1 mm0 K k))))), fun c0 K k => mShare1 hi hns hB.2.1 (nr_t (by decide) (br_f a1 (br_f a2' (nr_t a3 (p2 c0 K k))))), p3⟩
