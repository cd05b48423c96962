/-- a worker with its bench, made, from a base offset on -/
def WkOk (g : GG) (F : Nat → va_E) (n0 j : Nat) (hr : Int32) : Prop :=
  F (n0 + 1 + 7 * j) = .inr (6, [.int (nI j), .ref (gbs g + (n0 + 2 + 7 * j)), .int hr, .int 0, .null, .int 0]) ∧
  F (n0 + 2 + 7 * j) = .inr (0, [.ref (gbs g + (n0 + 3 + 7 * j)), .ref (gbs g + (n0 + 4 + 7 * j)), .int 0, .ref (gbs g + (n0 + 5 + 7 * j)), .ref (gbs g + (n0 + 6 + 7 * j)), .ref (gbs g + (n0 + 7 + 7 * j))]) ∧
  F (n0 + 3 + 7 * j) = aI (gcI g) 3 (fun _ => 0) ∧ F (n0 + 4 + 7 * j) = aI (gcI g) 3 (fun _ => 0) ∧ F (n0 + 5 + 7 * j) = aI (gcZ g) 3 (fun _ => 0) ∧ F (n0 + 6 + 7 * j) = aI (gcI g) 3 (fun _ => 0) ∧ F (n0 + 7 + 7 * j) = aI (gcI g) 3 (fun _ => 0)
theorem WkOk.kept {g : GG} {F F' : Nat → va_E} {n0 j : Nat} {hr : Int32} (h : WkOk g F n0 j hr) (hk : ∀ a, n0 < a → a < n0 + 8 + 7 * j → F' a = F a) : WkOk g F' n0 j hr := by
  obtain ⟨h1, h2, h3, h4, h5, h6, h7⟩ := h
  refine ⟨?_, ?_, ?_, ?_, ?_, ?_, ?_⟩
  · rw [hk _ (by omega) (by omega)]; exact h1
  · rw [hk _ (by omega) (by omega)]; exact h2
  · rw [hk _ (by omega) (by omega)]; exact h3
  · rw [hk _ (by omega) (by omega)]; exact h4
  · rw [hk _ (by omega) (by omega)]; exact h5
  · rw [hk _ (by omega) (by omega)]; exact h6
  · rw [hk _ (by omega) (by omega)]; exact h7
theorem WkOk.kept2 {g : GG} {F F' : Nat → va_E} {n0 j : Nat} {hr : Int32} (h : WkOk g F n0 j hr) (hk : ∀ a, n0 + 7 * j < a → a < n0 + 8 + 7 * j → F' a = F a) : WkOk g F' n0 j hr := by
  obtain ⟨h1, h2, h3, h4, h5, h6, h7⟩ := h
  refine ⟨?_, ?_, ?_, ?_, ?_, ?_, ?_⟩
  · rw [hk _ (by omega) (by omega)]; exact h1
  · rw [hk _ (by omega) (by omega)]; exact h2
  · rw [hk _ (by omega) (by omega)]; exact h3
  · rw [hk _ (by omega) (by omega)]; exact h4
  · rw [hk _ (by omega) (by omega)]; exact h5
  · rw [hk _ (by omega) (by omega)]; exact h6
  · rw [hk _ (by omega) (by omega)]; exact h7
/-- the crew's object -/
abbrev CrObj (g : GG) (n0 : Nat) (lf : Int32) : va_E := .inr (1, [.ref (gbs g + n0), .int lf, .int 0, .int 0, .int (-2000000)])
theorem nI_lt4 {i : Nat} (h : i < 4) : ¬ (4 : Int32) ≤ nI i := nI_ge h (by decide)
theorem nI_lt10 {i : Nat} (h : i < 10) : ¬ (10 : Int32) ≤ nI i := nI_ge h (by decide)
/-- hire(1) in the making: the first worker is there -/
theorem pu_hire (g : GG) (o n0 n : Nat) (h : Nat → Option Nat) (K : Nat → (Nat → va_E) → Prop) (ho : o < n0) (hn : n = n0 + 29) (r : Nat) : ∀ (i : Nat) (f : Nat → va_E), i + r = 4 → f o = CrObj g n0 1 → f n0 = aR (gcW g) 4 h → (∀ j, j < 4 → h j = some (gbs g + (n0 + 1 + 7 * j))) → (∀ j, j < 4 → WkOk g f n0 j (if j = 0 ∧ j < i then 1 else 0)) → (∀ F, F o = CrObj g n0 1 → F n0 = aR (gcW g) 4 h → (∀ j, j < 4 → WkOk g F n0 j (if j = 0 then 1 else 0)) → (∀ a, a ≠ o → a < n0 → F a = f a) → K n F) → U_X1_hire_7 (r + 1) g o 1 (nI i) n f 0 0 K := by
  induction r with
  | zero =>
    intro i f hi e0 e1 hh hw hK
    have : i = 4 := by omega
    subst this
    unfold U_X1_hire_7
    refine ⟨fun _ => ⟨Nat.le_refl _, Nat.le_refl _, hK f e0 e1 (fun j hj => ?_) (fun _ _ _ => rfl)⟩, fun c => absurd (by decide) c⟩
    have := hw j hj
    by_cases h0 : j = 0
    · simp only [h0, if_true]
      simpa [h0] using this
    · simpa [h0] using this
  | succ r ih =>
    intro i f hi e0 e1 hh hw hK
    have hi4 : i < 4 := by omega
    have hc : (nI i).toNatClampNeg = i := nI_clamp (by omega)
    unfold U_X1_hire_7
    refine ⟨fun c => absurd c (nI_lt4 hi4), fun _ => ⟨by omega, _, n0, e0, rfl, by omega, 4, h, n0 + 1 + 7 * i, e1, vp_in_nI hi4 (by decide), by rw [hc]; exact hh i hi4, fun c => ?_, fun c => ?_⟩⟩
    · -- 1 ≤ i: not there
      have hi0 : i ≠ 0 := fun h0 => by subst h0; exact absurd c (by decide)
      have hwi := hw i hi4
      rw [if_neg (by omega)] at hwi
      refine ⟨by omega, _, hwi.1, Nat.le_of_ble_eq_true rfl, fun f1 h1 => ?_⟩
      have k0 : f1 o = CrObj g n0 1 := by rw [h1, va_up_ne _ _ (by omega)]; exact e0
      have k1 : f1 n0 = aR (gcW g) 4 h := by rw [h1, va_up_ne _ _ (by omega)]; exact e1
      have k2 : f1 (n0 + 1 + 7 * i) = .inr (6, [.int (nI i), .ref (gbs g + (n0 + 2 + 7 * i)), .int 0, .int 0, .null, .int 0]) := by rw [h1, va_up_self]; rfl
      refine ⟨by omega, _, n0, k0, rfl, by omega, 4, h, n0 + 1 + 7 * i, k1, vp_in_nI hi4 (by decide), by rw [hc]; exact hh i hi4, by omega, _, k2, Nat.le_of_ble_eq_true rfl, fun f2 h2 => ?_⟩
      have q : ∀ a, a ≠ n0 + 1 + 7 * i → f2 a = f a := fun a ha => by rw [h2, va_up_ne _ _ ha, h1, va_up_ne _ _ ha]
      have q2 : f2 (n0 + 1 + 7 * i) = f (n0 + 1 + 7 * i) := by rw [h2, va_up_self, hwi.1]; rfl
      have q3 : f2 = f := by
        funext a
        by_cases ha : a = n0 + 1 + 7 * i
        · rw [ha]; exact q2
        · exact q a ha
      rw [show nI i + 1 = nI (i + 1) from nI_1 i, q3]
      refine ih (i + 1) f (by omega) e0 e1 hh (fun j hj => ?_) hK
      have := hw j hj
      by_cases hj0 : j = 0
      · subst hj0
        rw [if_pos ⟨rfl, by omega⟩] at this ⊢
        exact this
      · rw [if_neg (fun z => hj0 z.1)] at this ⊢
        exact this
    · -- i = 0: there
      have hi0 : i = 0 := by
        rcases Nat.eq_zero_or_pos i with h0 | h0
        · exact h0
        · exact absurd (show (1 : Int32) ≤ nI i from nI_le (a := 1) h0 (by omega)) c
      subst hi0
      have hwi := hw 0 hi4
      rw [if_neg (by omega)] at hwi
      refine ⟨by omega, _, hwi.1, Nat.le_of_ble_eq_true rfl, fun f1 h1 => ?_⟩
      have k0 : f1 o = CrObj g n0 1 := by rw [h1, va_up_ne _ _ (by omega)]; exact e0
      have k1 : f1 n0 = aR (gcW g) 4 h := by rw [h1, va_up_ne _ _ (by omega)]; exact e1
      have k2 : f1 (n0 + 1 + 7 * 0) = .inr (6, [.int (nI 0), .ref (gbs g + (n0 + 2 + 7 * 0)), .int 1, .int 0, .null, .int 0]) := by rw [h1, va_up_self]; rfl
      refine ⟨by omega, _, n0, k0, rfl, by omega, 4, h, n0 + 1 + 7 * 0, k1, vp_in_nI hi4 (by decide), by rw [hc]; exact hh 0 hi4, by omega, _, k2, Nat.le_of_ble_eq_true rfl, fun f2 h2 => ?_⟩
      have q : ∀ a, a ≠ n0 + 1 + 7 * 0 → f2 a = f a := fun a ha => by rw [h2, va_up_ne _ _ ha, h1, va_up_ne _ _ ha]
      rw [show nI 0 + 1 = nI (0 + 1) from nI_1 0]
      refine ih 1 f2 (by omega) (by rw [q _ (by omega)]; exact e0) (by rw [q _ (by omega)]; exact e1) hh (fun j hj => ?_) (fun F a1 a2 a3 a4 => hK F a1 a2 a3 (fun a b1 b2 => by rw [a4 a b1 b2, q a (by omega)]))
      by_cases hj0 : j = 0
      · subst hj0
        rw [if_pos ⟨rfl, by omega⟩]
        refine ⟨by rw [h2, va_up_self]; rfl, ?_, ?_, ?_, ?_, ?_, ?_⟩
        · rw [q _ (by omega)]; exact hwi.2.1
        · rw [q _ (by omega)]; exact hwi.2.2.1
        · rw [q _ (by omega)]; exact hwi.2.2.2.1
        · rw [q _ (by omega)]; exact hwi.2.2.2.2.1
        · rw [q _ (by omega)]; exact hwi.2.2.2.2.2.1
        · rw [q _ (by omega)]; exact hwi.2.2.2.2.2.2
      · have := hw j hj
        rw [if_neg (fun z => hj0 z.1)] at this ⊢
        exact this.kept2 (fun a b1 b2 => q a (by omega))
/-- the crew's loop: the workers are made -/
theorem pu_crewL (g : GG) (o n0 : Nat) (K : Nat → (Nat → va_E) → Prop) (ho : o < n0) (r : Nat) : ∀ (i n cl sl : Nat) (f : Nat → va_E) (h : Nat → Option Nat), i + r = 4 → n = n0 + 1 + 7 * i → cl = 1 + 7 * i → sl = 4 + 27 * i → f o = CrObj g n0 0 → f n0 = aR (gcW g) 4 h → (∀ j, j < i → h j = some (gbs g + (n0 + 1 + 7 * j))) → (∀ j, j < i → WkOk g f n0 j 0) → (∀ F h', F o = CrObj g n0 1 → F n0 = aR (gcW g) 4 h' → (∀ j, j < 4 → h' j = some (gbs g + (n0 + 1 + 7 * j))) → (∀ j, j < 4 → WkOk g F n0 j (if j = 0 then 1 else 0)) → (∀ a, a ≠ o → a < n0 → F a = f a) → K (n0 + 29) F) → U_X1_init_35 (r + 1) g o (nI i) n f cl sl K := by
  induction r with
  | zero =>
    intro i n cl sl f h hi hn hcl hsl e0 e1 hh hw hK
    have : i = 4 := by omega
    subst this
    unfold U_X1_init_35
    refine ⟨fun _ => ⟨by omega, by omega, by omega, _, e0, by omega, _, e0, Nat.le_of_ble_eq_true rfl, fun f1 h1 => ⟨5, ?_⟩⟩, fun c => absurd (by decide) c⟩
    refine pu_hire g o n0 n h _ ho (by omega) 4 0 f1 rfl (by rw [h1, va_up_self]; rfl) (by rw [h1, va_up_ne _ _ (by omega)]; exact e1) hh (fun j hj => ?_) (fun F a1 a2 a3 a4 => ⟨by omega, by omega, ?_⟩)
    · rw [if_neg (by omega)]
      exact (hw j hj).kept (fun a b1 b2 => by rw [h1, va_up_ne _ _ (by omega)])
    · have := hK F h a1 a2 hh a3 (fun a b1 b2 => by rw [a4 a b1 b2, h1, va_up_ne _ _ b1])
      rw [hn]
      exact this
  | succ r ih =>
    intro i n cl sl f h hi hn hcl hsl e0 e1 hh hw hK
    have hi4 : i < 4 := by omega
    have hc : (nI i).toNatClampNeg = i := nI_clamp (by omega)
    unfold U_X1_init_35
    refine ⟨fun c => absurd c (nI_lt4 hi4), fun _ => ⟨by omega, _, n0, e0, rfl, by omega, by omega, fun f1 h1 => ⟨by omega, by omega, ?_⟩⟩⟩
    refine pu_X6_init g (o := n) (n := n + 1) (by omega) (by rw [h1, va_up_self]) (fun F q0 q1 q2 q3 q4 q5 q6 qr => ?_)
    have s0 : F n0 = aR (gcW g) 4 h := by rw [qr _ (by omega) (by omega), h1, va_up_ne _ _ (by omega)]; exact e1
    refine ⟨by omega, by omega, 4, h, _, s0, q0, vp_in_nI hi4 (by decide), fun f3 h3 => ?_⟩
    have q : ∀ a, a ≠ n0 → a < n → f3 a = f a := fun a b1 b2 => by rw [h3, va_up_ne _ _ b1, qr _ (by omega) (by omega), h1, va_up_ne _ _ (by omega)]
    rw [show nI i + 1 = nI (i + 1) from nI_1 i]
    refine ih (i + 1) (n + 1 + 6) _ _ f3 (va_up h (nI i).toNatClampNeg (some (gbs g + n))) (by omega) (by omega) (by omega) (by omega) (by rw [q _ (by omega) (by omega)]; exact e0) (by rw [h3, va_up_self]) (fun j hj => ?_) (fun j hj => ?_) (fun F' h' a1 a2 a3 a4 a5 => hK F' h' a1 a2 a3 a4 (fun a b1 b2 => by rw [a5 a b1 b2, q a (by omega) (by omega)]))
    · rw [hc]
      by_cases hj0 : j = i
      · subst hj0
        rw [va_up_self, hn]
      · rw [va_up_ne _ _ hj0]
        exact hh j (by omega)
    · by_cases hj0 : j = i
      · subst hj0
        have z : ∀ a, a ≠ n0 → f3 a = F a := fun a b1 => by rw [h3, va_up_ne _ _ b1]
        subst hn
        refine ⟨?_, ?_, ?_, ?_, ?_, ?_, ?_⟩
        · rw [z _ (by omega), q0]
          rw [show n0 + 1 + 7 * j + 1 = n0 + 2 + 7 * j by omega]
        · rw [z _ (by omega), show n0 + 2 + 7 * j = n0 + 1 + 7 * j + 1 by omega, q1]
          rw [show n0 + 1 + 7 * j + 1 + 1 = n0 + 3 + 7 * j by omega, show n0 + 1 + 7 * j + 1 + 2 = n0 + 4 + 7 * j by omega, show n0 + 1 + 7 * j + 1 + 3 = n0 + 5 + 7 * j by omega, show n0 + 1 + 7 * j + 1 + 4 = n0 + 6 + 7 * j by omega, show n0 + 1 + 7 * j + 1 + 5 = n0 + 7 + 7 * j by omega]
        · rw [z _ (by omega), show n0 + 3 + 7 * j = n0 + 1 + 7 * j + 1 + 1 by omega, q2]
        · rw [z _ (by omega), show n0 + 4 + 7 * j = n0 + 1 + 7 * j + 1 + 2 by omega, q3]
        · rw [z _ (by omega), show n0 + 5 + 7 * j = n0 + 1 + 7 * j + 1 + 3 by omega, q4]
        · rw [z _ (by omega), show n0 + 6 + 7 * j = n0 + 1 + 7 * j + 1 + 4 by omega, q5]
        · rw [z _ (by omega), show n0 + 7 + 7 * j = n0 + 1 + 7 * j + 1 + 5 by omega, q6]
      · exact (hw j (by omega)).kept (fun a b1 b2 => q a (by omega) (by omega))
/-- Crew() -/
theorem pu_X1_init (g : GG) {o n : Nat} {f : Nat → va_E} {K : Nat → (Nat → va_E) → Prop} (ho : o < n) (e0 : f o = .inr (1, [.null, .int 0, .int 0, .int 0, .int 0])) (hK : ∀ F h', F o = CrObj g n 1 → F n = aR (gcW g) 4 h' → (∀ j, j < 4 → h' j = some (gbs g + (n + 1 + 7 * j))) → (∀ j, j < 4 → WkOk g F n j (if j = 0 then 1 else 0)) → (∀ a, a ≠ o → a < n → F a = f a) → K (n + 29) F) : U_X1_init g o n f K := by
  unfold U_X1_init
  intro f1 h1
  have e1 : f1 o = .inr (1, [.null, .int 0, .int 0, .int 0, .int 0]) := by rw [h1, va_up_ne _ _ (by omega)]; exact e0
  refine ⟨by omega, _, e1, Nat.le_of_ble_eq_true rfl, fun f2 h2 => ?_⟩
  have e2 : f2 o = .inr (1, [.ref (gbs g + n), .int 0, .int 0, .int 0, .int 0]) := by rw [h2, va_up_self]; rfl
  refine ⟨by omega, _, e2, Nat.le_of_ble_eq_true rfl, fun f3 h3 => ?_⟩
  have e3 : f3 o = .inr (1, [.ref (gbs g + n), .int 0, .int 0, .int 0, .int 0]) := by rw [h3, va_up_self]; rfl
  refine ⟨by omega, _, e3, Nat.le_of_ble_eq_true rfl, fun f4 h4 => ?_⟩
  have e4 : f4 o = .inr (1, [.ref (gbs g + n), .int 0, .int 0, .int 0, .int 0]) := by rw [h4, va_up_self]; rfl
  refine ⟨by omega, _, e4, Nat.le_of_ble_eq_true rfl, fun f5 h5 => ?_⟩
  have e5 : f5 o = .inr (1, [.ref (gbs g + n), .int 0, .int 0, .int 0, .int 0]) := by rw [h5, va_up_self]; rfl
  refine ⟨by omega, _, e5, Nat.le_of_ble_eq_true rfl, fun f6 h6 => ?_⟩
  have e6 : f6 o = CrObj g n 0 := by rw [h6, va_up_self]; rfl
  have q : ∀ a, a ≠ o → f6 a = f1 a := fun a ha => by rw [h6, va_up_ne _ _ ha, h5, va_up_ne _ _ ha, h4, va_up_ne _ _ ha, h3, va_up_ne _ _ ha, h2, va_up_ne _ _ ha]
  refine ⟨5, pu_crewL g o n K ho 4 0 (n + 1) 1 4 f6 (fun _ => none) rfl rfl rfl rfl e6 (by rw [q _ (by omega), h1, va_up_self]) (fun j hj => absurd hj (Nat.not_lt_zero j)) (fun j hj => absurd hj (Nat.not_lt_zero j)) (fun F h' a1 a2 a3 a4 a5 => hK F h' a1 a2 a3 a4 (fun a b1 b2 => by rw [a5 a b1 b2, q a b1, h1, va_up_ne _ _ (by omega)]))⟩
/-- a share, made -/
def ShOk (g : GG) (F : Nat → va_E) (n0 j : Nat) : Prop :=
  F (n0 + 4 * j) = .inr (4, [.ref (gbs g + (n0 + 1 + 4 * j)), .ref (gbs g + (n0 + 2 + 4 * j)), .ref (gbs g + (n0 + 3 + 4 * j)), .int 0, .int 0, .int (-2000000), .int 0, .int 0, .int 0]) ∧
  F (n0 + 1 + 4 * j) = aI (gcI g) 8 (fun _ => 0) ∧ F (n0 + 2 + 4 * j) = aI (gcI g) 8 (fun _ => 0) ∧ F (n0 + 3 + 4 * j) = aI (gcI g) 8 (fun _ => 0)
theorem ShOk.kept {g : GG} {F F' : Nat → va_E} {n0 j : Nat} (h : ShOk g F n0 j) (hk : ∀ a, n0 ≤ a → a < n0 + 4 + 4 * j → F' a = F a) : ShOk g F' n0 j := by
  obtain ⟨h1, h2, h3, h4⟩ := h
  refine ⟨?_, ?_, ?_, ?_⟩
  · rw [hk _ (by omega) (by omega)]; exact h1
  · rw [hk _ (by omega) (by omega)]; exact h2
  · rw [hk _ (by omega) (by omega)]; exact h3
  · rw [hk _ (by omega) (by omega)]; exact h4
abbrev FsObj (g : GG) (r0 r1 r2 r3 r4 : Nat) : va_E := .inr (7, [.ref (gbs g + r0), .ref (gbs g + r1), .ref (gbs g + r2), .ref (gbs g + r3), .ref (gbs g + r4), .int 0, .int 0, .int 3, .int 1000])
/-- the shares are made: n0 is the offset of the first, a5 of the array -/
theorem pu_shareL (g : GG) (o n0 a5 r0 r2 r3 r4 : Nat) (K : Nat → (Nat → va_E) → Prop) (ho : o < a5) (ha : a5 < n0) (r : Nat) : ∀ (i n cl sl : Nat) (f : Nat → va_E) (h : Nat → Option Nat), i + r = 10 → n = n0 + 4 * i → cl = 38 + 4 * i → sl = 179 + 33 * i → f o = FsObj g r0 a5 r2 r3 r4 → f a5 = aR (gcS g) 10 h → (∀ j, j < i → h j = some (gbs g + (n0 + 4 * j))) → (∀ j, j < i → ShOk g f n0 j) → (∀ F h', F o = FsObj g r0 a5 r2 r3 r4 → F a5 = aR (gcS g) 10 h' → (∀ j, j < 10 → h' j = some (gbs g + (n0 + 4 * j))) → (∀ j, j < 10 → ShOk g F n0 j) → (∀ a, a ≠ o → a ≠ a5 → a < n0 → F a = f a) → K (n0 + 40) F) → U_X7_init_81 (r + 1) g o (nI i) n f cl sl K := by
  induction r with
  | zero =>
    intro i n cl sl f h hi hn hcl hsl e0 e1 hh hw hK
    have : i = 10 := by omega
    subst this
    unfold U_X7_init_81
    refine ⟨fun _ => ⟨by omega, by omega, ?_⟩, fun c => absurd (by decide) c⟩
    rw [hn]
    exact hK f h e0 e1 hh hw (fun _ _ _ _ => rfl)
  | succ r ih =>
    intro i n cl sl f h hi hn hcl hsl e0 e1 hh hw hK
    have hi4 : i < 10 := by omega
    have hc : (nI i).toNatClampNeg = i := nI_clamp (by omega)
    unfold U_X7_init_81
    refine ⟨fun c => absurd c (nI_lt10 hi4), fun _ => ⟨by omega, _, a5, e0, rfl, by omega, by omega, fun f1 h1 => ⟨by omega, by omega, ?_⟩⟩⟩
    refine pu_X4_init g (o := n) (n := n + 1) (by omega) (by rw [h1, va_up_self]) (fun F q0 q1 q2 q3 qr => ?_)
    have s0 : F a5 = aR (gcS g) 10 h := by rw [qr _ (by omega) (by omega), h1, va_up_ne _ _ (by omega)]; exact e1
    refine ⟨by omega, by omega, 10, h, _, s0, q0, vp_in_nI hi4 (by decide), fun f3 h3 => ?_⟩
    have q : ∀ a, a ≠ a5 → a < n → f3 a = f a := fun a b1 b2 => by rw [h3, va_up_ne _ _ b1, qr _ (by omega) (by omega), h1, va_up_ne _ _ (by omega)]
    rw [show nI i + 1 = nI (i + 1) from nI_1 i]
    refine ih (i + 1) (n + 1 + 3) _ _ f3 (va_up h (nI i).toNatClampNeg (some (gbs g + n))) (by omega) (by omega) (by omega) (by omega) (by rw [q _ (by omega) (by omega)]; exact e0) (by rw [h3, va_up_self]) (fun j hj => ?_) (fun j hj => ?_) (fun F' h' a1 a2 a3 a4 a5' => hK F' h' a1 a2 a3 a4 (fun a b1 b2 b3 => by rw [a5' a b1 b2 b3, q a b2 (by omega)]))
    · rw [hc]
      by_cases hj0 : j = i
      · subst hj0
        rw [va_up_self, hn]
      · rw [va_up_ne _ _ hj0]
        exact hh j (by omega)
    · by_cases hj0 : j = i
      · subst hj0
        have z : ∀ a, a ≠ a5 → f3 a = F a := fun a b1 => by rw [h3, va_up_ne _ _ b1]
        subst hn
        refine ⟨?_, ?_, ?_, ?_⟩
        · rw [z _ (by omega), q0]
          rw [show n0 + 4 * j + 1 = n0 + 1 + 4 * j by omega, show n0 + 1 + 4 * j + 1 = n0 + 2 + 4 * j by omega, show n0 + 1 + 4 * j + 2 = n0 + 3 + 4 * j by omega]
        · rw [z _ (by omega), show n0 + 1 + 4 * j = n0 + 4 * j + 1 by omega, q1]
        · rw [z _ (by omega), show n0 + 2 + 4 * j = n0 + 4 * j + 1 + 1 by omega, q2]
        · rw [z _ (by omega), show n0 + 3 + 4 * j = n0 + 4 * j + 1 + 2 by omega, q3]
      · exact (hw j (by omega)).kept (fun a b1 b2 => q a (by omega) (by omega))
