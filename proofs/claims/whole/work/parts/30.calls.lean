theorem up3_kn {c : Nat → Nat → Nat → Int32} {k i j : Nat} {v : Int32} {k' : Nat} (h : k' ≠ k) : up3 c k i j v k' = c k' := by
  funext i' j'
  simp [up3, h]
/-! PURE: what a call does, on the class's side (Ci, Cv) and on the reference's (Mi, Mv) -/
def Ci (V : MW → (Int32 → MW → Prop) → Prop) (c : MC) (v : Int32) (c' : MC) : Prop := ∀ (mm : MM) (K : Int32 → MW → Prop), K v (c', mm) → V (c, mm) K
def Cv (V : MW → (MW → Prop) → Prop) (c c' : MC) : Prop := ∀ (mm : MM) (K : MW → Prop), K (c', mm) → V (c, mm) K
def Co (V : MW → (Option Nat → MW → Prop) → Prop) (c : MC) (v : Option Nat) (c' : MC) : Prop := ∀ (mm : MM) (K : Option Nat → MW → Prop), K v (c', mm) → V (c, mm) K
def Mi (V : MW → (Int32 → MW → Prop) → Prop) (mm : MM) (v : Int32) (mm' : MM) : Prop := ∀ (c : MC) (K : Int32 → MW → Prop), K v (c, mm') → V (c, mm) K
def Mv (V : MW → (MW → Prop) → Prop) (mm mm' : MM) : Prop := ∀ (c : MC) (K : MW → Prop), K (c, mm') → V (c, mm) K
theorem nr_t {c A B : Prop} (h : ¬ c) (a : A) : (¬ c → A) ∧ (c → B) := ⟨fun _ => a, fun q => absurd q h⟩
theorem nr_f {c A B : Prop} (h : c) (b : B) : (¬ c → A) ∧ (c → B) := ⟨fun q => absurd h q, fun _ => b⟩
theorem i_lt {x y : Int32} : x < y ↔ x.toInt < y.toInt := Int32.lt_iff_toInt_lt
theorem i_le {x y : Int32} : x ≤ y ↔ x.toInt ≤ y.toInt := Int32.le_iff_toInt_le
theorem i_eq {x y : Int32} : x = y ↔ x.toInt = y.toInt := ⟨fun h => by rw [h], fun h => Int32.toInt_inj.mp h⟩
theorem nI_t {n : Nat} (h : n < 2147483648) : (nI n).toInt = (n : Int) := nI_toInt (by omega)
theorem nlt0 {n : Nat} (h : n < 2147483648) : ¬ nI n < 0 := nI_pos (by omega)
theorem nI_ltL {a b : Nat} (ha : a < 2147483648) (hb : b < 2147483648) : nI a < nI b ↔ a < b := nI_ltI (by omega) (by omega)
theorem nI_leL {a b : Nat} (ha : a < 2147483648) (hb : b < 2147483648) : nI a ≤ nI b ↔ a ≤ b := nI_leI (by omega) (by omega)
theorem nI_eqL {a b : Nat} (ha : a < 2147483648) (hb : b < 2147483648) : nI a = nI b ↔ a = b := nI_eq (by omega) (by omega)
theorem nI_cl {n : Nat} (h : n < 2147483648) : (nI n).toNatClampNeg = n := nI_clamp (by omega)
theorem vin {j n : Nat} (h : j < n) (hn : n < 2147483648) : vp_in (nI j) n := vp_in_nI h (by omega)
/-- a number is out of 0 .. n-1, or one of them -/
theorem ix (x : Int32) (n : Nat) (hn : n < 2147483648) : (x < 0 ∨ ¬ x < 0 ∧ nI n ≤ x) ∨ ∃ j : Nat, j < n ∧ x = nI j := by
  rcases pk_ix x (n := n) (by omega) with h | h | h
  · exact Or.inl (Or.inl h)
  · by_cases h0 : x < 0
    · exact Or.inl (Or.inl h0)
    · exact Or.inl (Or.inr ⟨h0, h⟩)
  · exact Or.inr h
-- the small tests
theorem cFact1 {j : Nat} (h : j < 10) {m : MW} {K : Int32 → MW → Prop} (k : K 1 m) : V_X7_isFact (nI j) m K := br_f (nlt0 (by omega)) (br_f (nI_lt10 h) k)
theorem cFact0 {x : Int32} (h : x < 0 ∨ ¬ x < 0 ∧ nI 10 ≤ x) {m : MW} {K : Int32 → MW → Prop} (k : K 0 m) : V_X7_isFact x m K := by
  rcases h with h | ⟨h, h2⟩
  · exact br_t h k
  · exact br_f h (br_t h2 k)
theorem mFact1 {j : Nat} (h : j < 10) {m : MW} {K : Int32 → MW → Prop} (k : K 1 m) : V_X8_isFact (nI j) m K := br_f (nlt0 (by omega)) (br_f (nI_lt10 h) k)
theorem mFact0 {x : Int32} (h : x < 0 ∨ ¬ x < 0 ∧ nI 10 ≤ x) {m : MW} {K : Int32 → MW → Prop} (k : K 0 m) : V_X8_isFact x m K := by
  rcases h with h | ⟨h, h2⟩
  · exact br_t h k
  · exact br_f h (br_t h2 k)
def inE (x : Int32) : Prop := -1000000 ≤ x ∧ x ≤ 1000000
theorem tM : (-1000000 : Int32).toInt = -1000000 := by decide
theorem tP : (1000000 : Int32).toInt = 1000000 := by decide
theorem inE_t {x : Int32} (h : inE x) : -1000000 ≤ x.toInt ∧ x.toInt ≤ 1000000 := ⟨by have := i_le.mp h.1; rw [tM] at this; exact this, by have := i_le.mp h.2; rw [tP] at this; exact this⟩
theorem inE_of {x : Int32} (h : -1000000 ≤ x.toInt ∧ x.toInt ≤ 1000000) : inE x := ⟨i_le.mpr (by rw [tM]; exact h.1), i_le.mpr (by rw [tP]; exact h.2)⟩
theorem i_nlt {x y : Int32} : ¬ x < y ↔ y ≤ x := by rw [i_lt, i_le]; omega
theorem i_nle {x y : Int32} : ¬ x ≤ y ↔ y < x := by rw [i_lt, i_le]; omega
theorem cEnd1 {x : Int32} (h : inE x) {m : MW} {K : Int32 → MW → Prop} (k : K 1 m) : V_X7_isEnd x m K := br_f (i_nlt.mpr h.1) (br_f (i_nlt.mpr h.2) k)
theorem cEnd0 {x : Int32} (h : ¬ inE x) {m : MW} {K : Int32 → MW → Prop} (k : K 0 m) : V_X7_isEnd x m K := by
  unfold V_X7_isEnd
  by_cases h1 : x < -1000000
  · exact br_t h1 k
  · refine br_f h1 (br_t ?_ k)
    exact i_nle.mp (fun h2 => h ⟨i_nlt.mp h1, h2⟩)
theorem mEnd1 {x : Int32} (h : inE x) {m : MW} {K : Int32 → MW → Prop} (k : K 1 m) : V_X8_isEnd x m K := br_f (i_nlt.mpr h.1) (br_f (i_nlt.mpr h.2) k)
theorem mEnd0 {x : Int32} (h : ¬ inE x) {m : MW} {K : Int32 → MW → Prop} (k : K 0 m) : V_X8_isEnd x m K := by
  unfold V_X8_isEnd
  by_cases h1 : x < -1000000
  · exact br_t h1 k
  · refine br_f h1 (br_t ?_ k)
    exact i_nle.mp (fun h2 => h ⟨i_nlt.mp h1, h2⟩)
/-! the relation between the class's memory and the reference's -/
def b2n (x : Int32) : Nat := if x = 0 then 0 else 1
def rk (h : Nat → Int32) : Nat → Nat
  | 0 => 0
  | w + 1 => rk h w + b2n (h w)
theorem rk_le (h : Nat → Int32) : ∀ w, rk h w ≤ w
  | 0 => Nat.le_refl _
  | w + 1 => by
    have := rk_le h w
    unfold rk b2n
    split <;> omega
def Rg (l u : Int32) : Prop := l ≤ u ∧ -1000000 ≤ l ∧ u ≤ 1000000
def FactR (kn lo hi ml mh : Nat → Int32) : Prop := ∀ f, f < 10 → (kn f = 1 ∧ lo f = ml f ∧ hi f = mh f ∧ Rg (lo f) (hi f)) ∨ (kn f = 0 ∧ mh f < ml f)
def ActOk (s x y : Int32) : Prop := ∃ k, k ≤ 9 ∧ s = nI k ∧ (k = 0 → inE x ∧ inE y)
def ShareR (ns : Nat) (aim act : Nat → Int32) (so a b : Nat → Nat → Int32) (maim mact mso ma mb : Nat → Int32) : Prop := ns ≤ 10 ∧ (∀ i, i < 10 → ∃ na, na ≤ 8 ∧ act i = nI na ∧ mact i = nI na ∧ (ns ≤ i → na = 0) ∧ ∀ j, j < na → ActOk (so i j) (a i j) (b i j) ∧ mso (8 * i + j) = so i j ∧ ma (8 * i + j) = a i j ∧ mb (8 * i + j) = b i j) ∧ (∀ i, i < ns → ∃ f, f < 10 ∧ aim i = nI f ∧ maim i = nI f)
def WorkR (h lf mh ml : Nat → Int32) : Prop := ∀ w, w < 4 → (h w = 0 ∨ h w = 1) ∧ mh w = h w ∧ ml w = lf w ∧ 0 ≤ lf w
def BaseR (c : MC) (mm : MM) (ns : Nat) : Prop :=
  c.1 0 0 5 = nI ns ∧ mm 22 2 = nI ns ∧ ShareR ns (fun i => c.1 11 i 3) (fun i => c.1 11 i 4) (c.1 12) (c.1 13) (c.1 14) (mm 33) (mm 34) (mm 35) (mm 36) (mm 37) ∧ FactR (c.1 2 0) (c.1 3 0) (c.1 4 0) (mm 30) (mm 31) ∧
  WorkR (fun w => c.1 15 w 2) (fun w => c.1 15 w 3) (mm 50) (mm 51) ∧ c.1 8 0 1 = nI (rk (fun w => c.1 15 w 2) 4) ∧ c.1 8 0 2 = mm 22 24 ∧ c.1 8 0 3 = mm 22 23 ∧ c.1 8 0 4 = mm 22 25 ∧ c.1 0 0 7 = mm 22 26 ∧ c.1 0 0 8 = mm 22 27 ∧
  c.1 10 0 0 = mm 22 28 ∧ c.1 10 0 1 = mm 22 29 ∧ c.1 10 0 2 = mm 22 30 ∧ c.1 10 0 3 = mm 22 31 ∧ c.1 10 0 4 = mm 22 32 ∧ c.1 10 0 5 = mm 22 33 ∧ (∀ i, i < 10 → c.1 11 i 5 = mm 45 i)
def RR (c : MC) (mm : MM) : Prop := ∃ ns, BaseR c mm ns ∧ ∀ w, w < 4 → c.2 0 w = none
/-- both answer alike, and stay related -/
def Sim (VC VM : MW → (Int32 → MW → Prop) → Prop) : Prop := ∀ c mm, RR c mm → ∃ v c' mm', Ci VC c v c' ∧ Mi VM mm v mm' ∧ RR c' mm'
theorem sim_seed (x : Int32) : Sim (V_X7_seed x) (V_X8_seed x) := by
  rintro ⟨c, r⟩ mm ⟨ns, ⟨h1, h2, h3, h4, h5, h6, h7, h8, h9, h10, h11, h12, h13, h14, h15, h16, h17, h18⟩, hr⟩
  refine ⟨c 8 0 2, (up3 c 8 0 2 x, r), up2 mm 22 24 x, fun mm K k => ?_, fun c1 K k => ?_, ns, ⟨?_, ?_, ?_, ?_, ?_, ?_, ?_, ?_, ?_, ?_, ?_, ?_, ?_, ?_, ?_, ?_, ?_, ?_⟩, hr⟩
  · intro m1 e1; subst e1; exact k
  · intro m1 e1; subst e1; show K (mm 22 24) _; rw [← (show c 8 0 2 = mm 22 24 from h7)]; exact k
  · simpa [up3_kn, up2_ne, up3, up2] using h1
  · simpa [up3_kn, up2_ne, up3, up2] using h2
  · simpa [up3_kn, up2_ne, up3, up2] using h3
  · simpa [up3_kn, up2_ne, up3, up2] using h4
  · simpa [up3_kn, up2_ne, up3, up2] using h5
  · simpa [up3_kn, up2_ne, up3, up2] using h6
  · simp [up3_kn, up2_ne, up3, up2]
  · simpa [up3_kn, up2_ne, up3, up2] using h8
  · simpa [up3_kn, up2_ne, up3, up2] using h9
  · simpa [up3_kn, up2_ne, up3, up2] using h10
  · simpa [up3_kn, up2_ne, up3, up2] using h11
  · simpa [up3_kn, up2_ne, up3, up2] using h12
  · simpa [up3_kn, up2_ne, up3, up2] using h13
  · simpa [up3_kn, up2_ne, up3, up2] using h14
  · simpa [up3_kn, up2_ne, up3, up2] using h15
  · simpa [up3_kn, up2_ne, up3, up2] using h16
  · simpa [up3_kn, up2_ne, up3, up2] using h17
  · simpa [up3_kn, up2_ne, up3, up2] using h18
theorem sim_set (x y : Int32) : Sim (V_X7_set x y) (V_X8_set x y) := by
  rintro ⟨c, r⟩ mm ⟨ns, hB, hr⟩
  have hno : (Ci (V_X7_set x y) (c, r) (-2000002) (c, r) ∧ Mi (V_X8_set x y) mm (-2000002) mm) → ∃ v c' mm', Ci (V_X7_set x y) (c, r) v c' ∧ Mi (V_X8_set x y) mm v mm' ∧ RR c' mm' := fun h => ⟨_, _, _, h.1, h.2, ns, hB, hr⟩
  by_cases a1 : x < 1
  · exact hno ⟨fun mm K k => br_t a1 k, fun c K k => br_t a1 k⟩
  by_cases a2 : 20 < x
  · exact hno ⟨fun mm K k => br_f a1 (br_t a2 k), fun c K k => br_f a1 (br_t a2 k)⟩
  by_cases a3 : y < 0
  · exact hno ⟨fun mm K k => br_f a1 (br_f a2 (br_t a3 k)), fun c K k => br_f a1 (br_f a2 (br_t a3 k))⟩
  by_cases a4 : y ≤ 10000
  · obtain ⟨h1, h2, h3, h4, h5, h6, h7, h8, h9, h10, h11, h12, h13, h14, h15, h16, h17, h18⟩ := hB
    refine ⟨c 0 0 7, (up3 (up3 c 0 0 7 x) 0 0 8 y, r), up2 (up2 mm 22 26 x) 22 27 y, fun mm K k => br_f a1 (br_f a2 (br_f a3 (br_t a4 ?_))), fun c1 K k => br_f a1 (br_f a2 (br_f a3 (br_t a4 ?_))), ns, ⟨?_, ?_, ?_, ?_, ?_, ?_, ?_, ?_, ?_, ?_, ?_, ?_, ?_, ?_, ?_, ?_, ?_, ?_⟩, hr⟩
    · intro m1 e1 m2 e2; subst e1; subst e2; exact k
    · intro m1 e1 m2 e2; subst e1; subst e2; show K (mm 22 26) _; rw [← (show c 0 0 7 = mm 22 26 from h10)]; exact k
    · simpa [up3_kn, up2_ne, up3, up2] using h1
    · simpa [up3_kn, up2_ne, up3, up2] using h2
    · simpa [up3_kn, up2_ne, up3, up2] using h3
    · simpa [up3_kn, up2_ne, up3, up2] using h4
    · simpa [up3_kn, up2_ne, up3, up2] using h5
    · simpa [up3_kn, up2_ne, up3, up2] using h6
    · simpa [up3_kn, up2_ne, up3, up2] using h7
    · simpa [up3_kn, up2_ne, up3, up2] using h8
    · simpa [up3_kn, up2_ne, up3, up2] using h9
    · simp [up3_kn, up2_ne, up3, up2]
    · simp [up3_kn, up2_ne, up3, up2]
    · simpa [up3_kn, up2_ne, up3, up2] using h12
    · simpa [up3_kn, up2_ne, up3, up2] using h13
    · simpa [up3_kn, up2_ne, up3, up2] using h14
    · simpa [up3_kn, up2_ne, up3, up2] using h15
    · simpa [up3_kn, up2_ne, up3, up2] using h16
    · simpa [up3_kn, up2_ne, up3, up2] using h17
    · simpa [up3_kn, up2_ne, up3, up2] using h18
  · exact hno ⟨fun mm K k => br_f a1 (br_f a2 (br_f a3 (br_f a4 k))), fun c K k => br_f a1 (br_f a2 (br_f a3 (br_f a4 k)))⟩
theorem sim_fact (x y z : Int32) : Sim (V_X7_fact x y z) (V_X8_fact x y z) := by
  rintro ⟨c, r⟩ mm ⟨ns, hB, hr⟩
  have hno : ∀ u, (Ci (V_X7_fact x y z) (c, r) u (c, r) ∧ Mi (V_X8_fact x y z) mm u mm) → ∃ v c' mm', Ci (V_X7_fact x y z) (c, r) v c' ∧ Mi (V_X8_fact x y z) mm v mm' ∧ RR c' mm' := fun u h => ⟨_, _, _, h.1, h.2, ns, hB, hr⟩
  rcases ix x 10 (by decide) with h | ⟨f, hf, rfl⟩
  · exact hno _ ⟨fun mm K k => cFact0 h (nr_f rfl k), fun c K k => mFact0 h (nr_f rfl k)⟩
  by_cases a1 : inE y
  · by_cases a2 : inE z
    · by_cases a3 : y ≤ z
      · obtain ⟨h1, h2, h3, h4, h5, h6, h7, h8, h9, h10, h11, h12, h13, h14, h15, h16, h17, h18⟩ := hB
        have hc : (nI f).toNatClampNeg = f := nI_cl (by omega)
        refine ⟨1, (up3 (up3 (up3 c 2 0 f 1) 3 0 f y) 4 0 f z, r), up2 (up2 mm 30 f y) 31 f z, fun mm K k => ?_, fun c K k => ?_, ns, ⟨?_, ?_, ?_, ?_, ?_, ?_, ?_, ?_, ?_, ?_, ?_, ?_, ?_, ?_, ?_, ?_, ?_, ?_⟩, hr⟩
        · refine cFact1 hf (nr_t (by decide) (cEnd1 a1 (br_f (by decide) (cEnd1 a2 (br_f (by decide) (br_t a3 ?_))))))
          refine cFact1 hf (nr_t (by decide) ⟨vin hf (by decide), fun m1 e1 => ⟨vin hf (by decide), fun m2 e2 => ⟨vin hf (by decide), fun m3 e3 => ?_⟩⟩⟩)
          subst e1; subst e2; subst e3
          rw [hc]; exact k
        · refine mFact1 hf (nr_t (by decide) (mEnd1 a1 (br_f (by decide) (mEnd1 a2 (br_f (by decide) (br_t a3 ⟨vin hf (by decide), fun m1 e1 => ⟨vin hf (by decide), fun m2 e2 => ?_⟩⟩))))))
          subst e1; subst e2
          rw [hc]; exact k
        · simpa [up3_kn, up2_ne, up3, up2] using h1
        · simpa [up3_kn, up2_ne, up3, up2] using h2
        · simpa [up3_kn, up2_ne, up3, up2] using h3
        · intro q hq
          by_cases hqf : q = f
          · subst hqf
            refine Or.inl ⟨?_, ?_, ?_, ?_⟩ <;> simp [up3_kn, up2_ne, up3, up2]
            exact ⟨a3, a1.1, a2.2⟩
          · have := h4 q hq
            simpa [up3_kn, up2_ne, up3, up2, hqf] using this
        · simpa [up3_kn, up2_ne, up3, up2] using h5
        · simpa [up3_kn, up2_ne, up3, up2] using h6
        · simpa [up3_kn, up2_ne, up3, up2] using h7
        · simpa [up3_kn, up2_ne, up3, up2] using h8
        · simpa [up3_kn, up2_ne, up3, up2] using h9
        · simpa [up3_kn, up2_ne, up3, up2] using h10
        · simpa [up3_kn, up2_ne, up3, up2] using h11
        · simpa [up3_kn, up2_ne, up3, up2] using h12
        · simpa [up3_kn, up2_ne, up3, up2] using h13
        · simpa [up3_kn, up2_ne, up3, up2] using h14
        · simpa [up3_kn, up2_ne, up3, up2] using h15
        · simpa [up3_kn, up2_ne, up3, up2] using h16
        · simpa [up3_kn, up2_ne, up3, up2] using h17
        · simpa [up3_kn, up2_ne, up3, up2] using h18
      · exact hno _ ⟨fun mm K k => cFact1 hf (nr_t (by decide) (cEnd1 a1 (br_f (by decide) (cEnd1 a2 (br_f (by decide) (br_f a3 k)))))), fun c K k => mFact1 hf (nr_t (by decide) (mEnd1 a1 (br_f (by decide) (mEnd1 a2 (br_f (by decide) (br_f a3 k))))))⟩
    · exact hno _ ⟨fun mm K k => cFact1 hf (nr_t (by decide) (cEnd1 a1 (br_f (by decide) (cEnd0 a2 (br_t rfl k))))), fun c K k => mFact1 hf (nr_t (by decide) (mEnd1 a1 (br_f (by decide) (mEnd0 a2 (br_t rfl k)))))⟩
  · exact hno _ ⟨fun mm K k => cFact1 hf (nr_t (by decide) (cEnd0 a1 (br_t rfl k))), fun c K k => mFact1 hf (nr_t (by decide) (mEnd0 a1 (br_t rfl k)))⟩
theorem sim_end (x y : Int32) : Sim (V_X7_end x y) (V_X8_end x y) := by
  rintro ⟨c, r⟩ mm ⟨ns, hB, hr⟩
  have hno : ∀ u, (Ci (V_X7_end x y) (c, r) u (c, r) ∧ Mi (V_X8_end x y) mm u mm) → ∃ v c' mm', Ci (V_X7_end x y) (c, r) v c' ∧ Mi (V_X8_end x y) mm v mm' ∧ RR c' mm' := fun u h => ⟨_, _, _, h.1, h.2, ns, hB, hr⟩
  rcases ix x 10 (by decide) with h | ⟨f, hf, rfl⟩
  · exact hno _ ⟨fun mm K k => cFact0 h (nr_f rfl k), fun c K k => mFact0 h (nr_f rfl k)⟩
  have hc : (nI f).toNatClampNeg = f := nI_cl (by omega)
  by_cases a1 : y < 0
  · exact hno _ ⟨fun mm K k => cFact1 hf (nr_t (by decide) (br_t a1 k)), fun c K k => mFact1 hf (nr_t (by decide) (br_t a1 k))⟩
  by_cases a2 : y ≤ 1
  · have hF := hB.2.2.2.1 f hf
    rcases hF with ⟨b1, b2, b3, b4⟩ | ⟨b1, b2⟩
    · have e1 : c 2 0 f = 1 := b1
      have e2 : c 3 0 f = mm 30 f := b2
      have e3 : c 4 0 f = mm 31 f := b3
      have e4 : mm 30 f ≤ mm 31 f := by rw [← e2, ← e3]; exact b4.1
      by_cases a3 : y = 0
      · refine hno (c 3 0 f) ⟨fun mm K k => cFact1 hf (nr_t (by decide) (br_f a1 (br_t a2 ⟨vin hf (by decide), nr_t ?_ (nr_f a3 ⟨vin hf (by decide), ?_⟩)⟩))), fun c' K k => mFact1 hf (nr_t (by decide) (br_f a1 (br_t a2 ⟨vin hf (by decide), vin hf (by decide), br_t ?_ (nr_f a3 ⟨vin hf (by decide), ?_⟩)⟩)))⟩
        · rw [hc]; show ¬ c 2 0 f = 0; rw [e1]; decide
        · rw [hc]; exact k
        · rw [hc]; exact e4
        · rw [hc]; rw [e2] at k; exact k
      · refine hno (c 4 0 f) ⟨fun mm K k => cFact1 hf (nr_t (by decide) (br_f a1 (br_t a2 ⟨vin hf (by decide), nr_t ?_ (nr_t a3 ⟨vin hf (by decide), ?_⟩)⟩))), fun c' K k => mFact1 hf (nr_t (by decide) (br_f a1 (br_t a2 ⟨vin hf (by decide), vin hf (by decide), br_t ?_ (nr_t a3 ⟨vin hf (by decide), ?_⟩)⟩)))⟩
        · rw [hc]; show ¬ c 2 0 f = 0; rw [e1]; decide
        · rw [hc]; exact k
        · rw [hc]; exact e4
        · rw [hc]; rw [e3] at k; exact k
    · have e1 : c 2 0 f = 0 := b1
      refine hno _ ⟨fun mm K k => cFact1 hf (nr_t (by decide) (br_f a1 (br_t a2 ⟨vin hf (by decide), nr_f ?_ k⟩))), fun c' K k => mFact1 hf (nr_t (by decide) (br_f a1 (br_t a2 ⟨vin hf (by decide), vin hf (by decide), br_f ?_ k⟩)))⟩
      · rw [hc]; exact e1
      · rw [hc]; exact i_nle.mpr b2
  · exact hno _ ⟨fun mm K k => cFact1 hf (nr_t (by decide) (br_f a1 (br_f a2 k))), fun c K k => mFact1 hf (nr_t (by decide) (br_f a1 (br_f a2 k)))⟩
theorem sim_share (x : Int32) : Sim (V_X7_share x) (V_X8_share x) := by
  rintro ⟨c, r⟩ mm ⟨ns, hB, hr⟩
  have hno : ∀ u, (Ci (V_X7_share x) (c, r) u (c, r) ∧ Mi (V_X8_share x) mm u mm) → ∃ v c' mm', Ci (V_X7_share x) (c, r) v c' ∧ Mi (V_X8_share x) mm v mm' ∧ RR c' mm' := fun u h => ⟨_, _, _, h.1, h.2, ns, hB, hr⟩
  rcases ix x 10 (by decide) with h | ⟨f, hf, rfl⟩
  · exact hno _ ⟨fun mm K k => cFact0 h (nr_f rfl k), fun c K k => mFact0 h (nr_f rfl k)⟩
  obtain ⟨h1, h2, h3, h4, h5, h6, h7, h8, h9, h10, h11, h12, h13, h14, h15, h16, h17, h18⟩ := id hB
  have h1 : c 0 0 5 = nI ns := h1
  have hns : ns ≤ 10 := h3.1
  by_cases a1 : ns < 10
  · have hc : (nI ns).toNatClampNeg = ns := nI_cl (by omega)
    have l1 : nI ns < 10 := (nI_ltL (b := 10) (by omega) (by omega)).mpr a1
    have l2 : ¬ nI ns = 10 := fun h => by have := (nI_eqL (b := 10) (by omega) (by omega)).mp h; omega
    refine ⟨nI ns, (up3 (up3 c 11 ns 3 (nI f)) 0 0 5 (nI (ns + 1)), r), up2 (up2 mm 33 ns (nI f)) 22 2 (nI (ns + 1)), fun mm K k => ?_, fun c K k => ?_, ns + 1, ⟨?_, ?_, ?_, ?_, ?_, ?_, ?_, ?_, ?_, ?_, ?_, ?_, ?_, ?_, ?_, ?_, ?_, ?_⟩, hr⟩
    · refine cFact1 hf (nr_t (by decide) (br_t (show c 0 0 5 < 10 by rw [h1]; exact l1) ⟨show vp_in (c 0 0 5) 10 by rw [h1]; exact vin a1 (by decide), fun m1 e1 m2 e2 => ?_⟩))
      subst e1; subst e2
      have z1 : up3 c 11 (c 0 0 5).toNatClampNeg 3 (nI f) 0 0 5 + 1 = nI (ns + 1) := by rw [show up3 c 11 (c 0 0 5).toNatClampNeg 3 (nI f) 0 0 5 = c 0 0 5 from by simp [up3], h1, nI_1]
      show K (up3 (up3 c 11 (c 0 0 5).toNatClampNeg 3 (nI f)) 0 0 5 (up3 c 11 (c 0 0 5).toNatClampNeg 3 (nI f) 0 0 5 + 1) 0 0 5 - 1) ((up3 (up3 c 11 (c 0 0 5).toNatClampNeg 3 (nI f)) 0 0 5 (up3 c 11 (c 0 0 5).toNatClampNeg 3 (nI f) 0 0 5 + 1), r), mm)
      rw [z1, h1, hc, up3_self, nI_pred]
      exact k
    · refine mFact1 hf (nr_t (by decide) (nr_t (show ¬ mm 22 2 = 10 by rw [h2]; exact l2) ⟨show vp_in (mm 22 2) 10 by rw [h2]; exact vin a1 (by decide), fun m1 e1 m2 e2 => ?_⟩))
      subst e1; subst e2
      have z1 : up2 mm 33 (mm 22 2).toNatClampNeg (nI f) 22 2 + 1 = nI (ns + 1) := by rw [show up2 mm 33 (mm 22 2).toNatClampNeg (nI f) 22 2 = mm 22 2 from by simp [up2], h2, nI_1]
      show K (up2 (up2 mm 33 (mm 22 2).toNatClampNeg (nI f)) 22 2 (up2 mm 33 (mm 22 2).toNatClampNeg (nI f) 22 2 + 1) 22 2 - 1) (c, up2 (up2 mm 33 (mm 22 2).toNatClampNeg (nI f)) 22 2 (up2 mm 33 (mm 22 2).toNatClampNeg (nI f) 22 2 + 1))
      rw [z1, h2, hc, show up2 (up2 mm 33 ns (nI f)) 22 2 (nI (ns + 1)) 22 2 = nI (ns + 1) from by simp [up2], nI_pred]
      exact k
    · simp [up3]
    · simp [up2]
    · refine ⟨by omega, fun i hi => ?_, fun i hi => ?_⟩
      · obtain ⟨na, b1, b2, b3, b4, b5⟩ := h3.2.1 i hi
        refine ⟨na, b1, by simpa [up3_kn, up3] using b2, by simpa [up2_ne, up2] using b3, fun q => b4 (by omega), fun j hj => ?_⟩
        simpa [up3_kn, up2_ne, up3, up2] using b5 j hj
      · by_cases hin : i = ns
        · subst hin
          exact ⟨f, hf, by simp [up3], by simp [up2]⟩
        · obtain ⟨f', b1, b2, b3⟩ := h3.2.2 i (by omega)
          exact ⟨f', b1, by simpa [up3, hin] using b2, by simpa [up2, hin] using b3⟩
    · simpa [up3_kn, up2_ne, up3, up2] using h4
    · simpa [up3_kn, up2_ne, up3, up2] using h5
    · simpa [up3_kn, up2_ne, up3, up2] using h6
    · simpa [up3_kn, up2_ne, up3, up2] using h7
    · simpa [up3_kn, up2_ne, up3, up2] using h8
    · simpa [up3_kn, up2_ne, up3, up2] using h9
    · simpa [up3_kn, up2_ne, up3, up2] using h10
    · simpa [up3_kn, up2_ne, up3, up2] using h11
    · simpa [up3_kn, up2_ne, up3, up2] using h12
    · simpa [up3_kn, up2_ne, up3, up2] using h13
    · simpa [up3_kn, up2_ne, up3, up2] using h14
    · simpa [up3_kn, up2_ne, up3, up2] using h15
    · simpa [up3_kn, up2_ne, up3, up2] using h16
    · simpa [up3_kn, up2_ne, up3, up2] using h17
    · simpa [up3_kn, up2_ne, up3, up2] using h18
  · have e10 : ns = 10 := by omega
    subst e10
    refine hno _ ⟨fun mm K k => cFact1 hf (nr_t (by decide) (br_f ?_ k)), fun c' K k => mFact1 hf (nr_t (by decide) (nr_f ?_ k))⟩
    · show ¬ c 0 0 5 < 10; rw [h1]; decide
    · show mm 22 2 = 10; rw [h2]; rfl
