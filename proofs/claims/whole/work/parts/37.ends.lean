/-! A ROUND comes to its end, on both sides -/
/-- what a turn of worker w changes, as far as the end of the round hangs on it -/
def TStep (c c' : Nat → Nat → Nat → Int32) (ns fi fi' : Nat) (rem rem' : Nat → Nat) (w : Nat) : Prop :=
  rk (fun i => c' 15 i 2) 4 + 1 = rk (fun i => c 15 i 2) 4 ∨ ((∀ i, c' 15 i 2 = c 15 i 2) ∧ (∀ v, v ≠ w → rem' v = rem v) ∧ ((fi' = fi + 1 ∧ fi < ns ∧ rem' w ≤ 8) ∨ (fi' = fi ∧ rem' w < rem w) ∨ (fi' = fi ∧ fi = ns ∧ rem' w = 0 ∧ rem w = 0)))
theorem pos_lt {n : Nat} (z : Nat) (h : 1 ≤ n) : pos n z < n := Nat.mod_lt _ (by omega)
section
variable {c : Nat → Nat → Nat → Int32} {r : Nat → Nat → Option Nat} {mm : MM} {ns fi u : Nat} {rem : Nat → Nat}
theorem turn_sim (hI : IX c r mm ns fi u rem 4) (hn : 1 ≤ rk (fun i => c 15 i 2) 4) :
    ∃ c' r' mm' fi' u' rem' w, Cv V_X7_playTurn (c, r) (c', r') ∧ Mv V_X8_turn mm mm' ∧ IX c' r' mm' ns fi' u' rem' 4 ∧ uN32 (c' 8 0 2) = nx (uN32 (c 8 0 2)) ∧ w < 4 ∧ ¬ c 15 w 2 = 0 ∧ rk (fun i => c 15 i 2) w = pos (rk (fun i => c 15 i 2) 4) (nx (uN32 (c 8 0 2))) ∧ TStep c c' ns fi fi' rem rem' w ∧ (∀ i, c' 11 i 4 = c 11 i 4) := by
  obtain ⟨w, hw4, hw0, hwp⟩ := rk_ex (n := 4) (pos_lt (nx (uN32 (c 8 0 2))) hn)
  have hW := hI.1.2.2.2.2.1
  have h6 : c 8 0 1 = nI (rk (fun i => c 15 i 2) 4) := hI.1.2.2.2.2.2.1
  have h7 : c 8 0 2 = mm 22 24 := hI.1.2.2.2.2.2.2.1
  have h8 : c 8 0 3 = mm 22 23 := hI.1.2.2.2.2.2.2.2.1
  obtain ⟨g1, g2, g3, g4⟩ := hW w hw4
  have hh : c 15 w 2 = 1 := by
    rcases g1 with g | g
    · exact absurd g hw0
    · exact g
  have g3 : mm 51 w = c 15 w 3 := g3
  have g4 : 0 ≤ c 15 w 3 := g4
  have hm : Mov c (rk (fun i => c 15 i 2) 4) w := ⟨rfl, hn, hw4, hh, hwp⟩
  have HI : IX (cH c w) r (mH mm w) ns fi u rem 4 := IX_head hI
    (fun k i j q => by unfold cH up3; rw [if_neg (by omega), if_neg (by omega), if_neg (by omega)])
    (fun k j q => by unfold mH up2; rw [if_neg (by omega), if_neg (by omega), if_neg (by omega)])
    (by simp [cH, mH, up3, up2, h7]) (by simp [cH, mH, up3, up2, h8]) (by simp [cH, mH, up3, up2])
  have Hh : cH c w 15 w 2 = 1 := by simpa [cH, up3] using hh
  have H15 : ∀ i, cH c w 15 i 2 = c 15 i 2 := fun i => by simp [cH, up3]
  have H11 : ∀ i, cH c w 11 i 4 = c 11 i 4 := fun i => by simp [cH, up3]
  have Hx : uN32 (cH c w 8 0 2) = nx (uN32 (c 8 0 2)) := by
    rw [← nx_i]; simp [cH, up3]
  have e5 : ∀ v, v < 4 → mm 50 v = c 15 v 2 := fun v hv => (hW v hv).2.1
  have l0 : mm 51 w ≤ 0 ↔ c 15 w 3 = 0 := by
    rw [g3]
    have := i_le.mp g4
    rw [i_le, i_eq]
    have z : (0 : Int32).toInt = 0 := rfl
    omega
  have l1 : mm 22 23 + 1 < mm 51 w ↔ c 8 0 3 + 1 < c 15 w 3 := by rw [g3, h8]
  by_cases hl : ¬ c 15 w 3 = 0 ∧ ¬ c 8 0 3 + 1 < c 15 w 3
  · obtain ⟨c', r', mm', fi', rem', q1, q2, q3, q4, q5, q6⟩ := lose_sim HI hw4 Hh
    refine ⟨c', r', mm', fi', u, rem', w, fun mm K k => cTurn_l hm h6 hl.1 hl.2 (q1 mm K k), fun C K k => mTurn hm e5 h7.symm ⟨fun z => absurd (l0.mp z) hl.1, fun _ => ⟨fun z => absurd (l1.mp z) hl.2, fun _ => q2 C K k⟩⟩, q3, by rw [q5]; exact Hx, hw4, hw0, hwp, Or.inl ?_, fun i => (q6 i).trans (H11 i)⟩
    rw [q4]
    exact rk_congr fun i _ => H15 i
  · have hl' : c 15 w 3 = 0 ∨ (¬ c 15 w 3 = 0 ∧ c 8 0 3 + 1 < c 15 w 3) := by
      by_cases z : c 15 w 3 = 0
      · exact Or.inl z
      · exact Or.inr ⟨z, Classical.byContradiction fun z2 => hl ⟨z, z2⟩⟩
    have hMM : ∀ C K, ((mm 52 w = -2000000 → T_take (nI w) (C, mH mm w) K) ∧ (¬ mm 52 w = -2000000 → T_act (nI w) (C, mH mm w) K)) → V_X8_turn (C, mm) K := fun C K k =>
      mTurn hm e5 h7.symm ⟨fun _ => k, fun z => ⟨fun _ => k, fun z2 => absurd ⟨fun z3 => z (l0.mpr z3), fun z3 => z2 (l1.mpr z3)⟩ hl⟩⟩
    cases hr : r 0 w with
    | none =>
      have hrem : mm 52 w = -2000000 ∧ rem w = 0 := by
        rcases hI.2.2.1.1 w hw4 with ⟨_, g, g'⟩ | ⟨s', _, g, _⟩
        · exact ⟨g, g'⟩
        · rw [hr] at g; cases g
      by_cases hf : fi < ns
      · obtain ⟨c', r', mm', u', rem', q1, q2, q3, q4, q5, q6, q7, q8⟩ := take_sim HI hw4 hr Hh hf
        refine ⟨c', r', mm', fi + 1, u', rem', w, fun mm K k => cTurn_n hm h6 hl' ⟨fun _ => q1 mm K k, fun s z => ?_⟩, fun C K k => hMM C K ⟨fun _ => q2 C K k, fun z => absurd hrem.1 z⟩, q3, by rw [q7]; exact Hx, hw4, hw0, hwp, Or.inr ⟨fun i => (q6 i).trans (H15 i), q4, Or.inl ⟨rfl, hf, q5⟩⟩, fun i => (q8 i).trans (H11 i)⟩
        rw [hr] at z; cases z
      · have hfe : fi = ns := by have := hI.2.1.1; omega
        subst hfe
        obtain ⟨q1, q2⟩ := take_idle (w := w) HI
        refine ⟨cH c w, r, mH mm w, fi, u, rem, w, fun mm K k => cTurn_n hm h6 hl' ⟨fun _ => q1 mm K k, fun s z => ?_⟩, fun C K k => hMM C K ⟨fun _ => q2 C K k, fun z => absurd hrem.1 z⟩, HI, Hx, hw4, hw0, hwp, Or.inr ⟨H15, fun v _ => rfl, Or.inr (Or.inr ⟨rfl, rfl, hrem.2, hrem.2⟩)⟩, H11⟩
        rw [hr] at z; cases z
    | some s =>
      obtain ⟨b1, b2, b3, b4, b5⟩ := IX_at hI hw4 hr
      have hns : ns ≤ 10 := hI.1.2.2.1.1
      have hs10 : s < 10 := by omega
      have h52 : ¬ mm 52 w = -2000000 := fun g => by
        rw [b2] at g
        have := i_eq.mp g
        rw [nI_t (by omega), show (-2000000 : Int32).toInt = -2000000 by decide] at this
        omega
      obtain ⟨c', r', mm', u', rem', q1, q2, q3, q4, q5, q6, q7, q8⟩ := work_sim HI hw4 hr
      refine ⟨c', r', mm', fi, u', rem', w, fun mm K k => cTurn_n hm h6 hl' ⟨fun z => ?_, fun s' z => ?_⟩, fun C K k => hMM C K ⟨fun z => absurd z h52, fun _ => q2 C K k⟩, q3, by rw [q7]; exact Hx, hw4, hw0, hwp, Or.inr ⟨fun i => (q6 i).trans (H15 i), q4, Or.inr (Or.inl ⟨rfl, q5⟩)⟩, fun i => (q8 i).trans (H11 i)⟩
      · rw [hr] at z; cases z
      · have : s = s' := Option.some.inj (hr.symm.trans z)
        subst this
        exact ⟨hs10, q1 mm K k⟩
end
def Play (ns : Nat) (A : Nat → Int32) : Nat → MW → MW → Prop
  | 0, σ, τ => σ = τ ∧ ∃ fi u rem, IX σ.1.1 σ.1.2 σ.2 ns fi u rem 4 ∧ (u = 0 ∨ rk (fun i => σ.1.1 15 i 2) 4 = 0) ∧ ∀ i, σ.1.1 11 i 4 = A i
  | n + 1, σ, τ => (∃ fi u rem, IX σ.1.1 σ.1.2 σ.2 ns fi u rem 4 ∧ 0 < u ∧ 0 < rk (fun i => σ.1.1 15 i 2) 4) ∧ ∃ σ', Cv V_X7_playTurn σ.1 σ'.1 ∧ Mv V_X8_turn σ.2 σ'.2 ∧ Play ns A n σ' τ
def TB : Nat → Nat
  | 0 => 0
  | n + 1 => TB n + tw (n + 1) + 134
section
variable {ns : Nat} {A : Nat → Int32}
theorem rem_le {c : Nat → Nat → Nat → Int32} {r : Nat → Nat → Option Nat} {mm : MM} {fi u : Nat} {rem : Nat → Nat} (hI : IX c r mm ns fi u rem 4) {v : Nat} (hv : v < 4) : rem v ≤ 8 ∧ (c 15 v 2 = 0 → rem v = 0) ∧ (rem v = 0 → r 0 v = none) := by
  rcases hI.2.2.1.1 v hv with ⟨g1, g2, g3⟩ | ⟨s, a1, a2, a3, a4, a5, a6⟩
  · exact ⟨by omega, fun _ => g3, fun _ => g1⟩
  · obtain ⟨k, na, b1, b2, b3, _⟩ := a6 (by omega)
    exact ⟨by omega, fun z => by rw [a4] at z; exact absurd z (by decide), fun z => by omega⟩
theorem u_zero {c : Nat → Nat → Nat → Int32} {r : Nat → Nat → Option Nat} {mm : MM} {u : Nat} {rem : Nat → Nat} (hI : IX c r mm ns ns u rem 4) (h : ∀ v, v < 4 → rem v = 0) : u = 0 := by
  have hz : hn r = 0 := ct_pos fun v hv => by rw [(rem_le hI hv).2.2 (h v hv)]; rfl
  have := hI.2.2.2.2.2.2
  omega
theorem ends : ∀ (n : Nat), n ≤ 4 → ∀ c r mm fi u rem, IX c r mm ns fi u rem 4 → rk (fun i => c 15 i 2) 4 = n → (∀ i, c 11 i 4 = A i) → ∃ N, N ≤ TB n ∧ ∃ τ, Play ns A N ((c, r), mm) τ := by
  intro n
  induction n with
  | zero =>
    intro _ c r mm fi u rem hI hn hA
    exact ⟨0, Nat.le_refl _, _, rfl, fi, u, rem, hI, Or.inr hn, hA⟩
  | succ n ih =>
    intro hn4
    have ih := ih (by omega)
    -- the line is empty
    have phB : ∀ (b : Nat) c r mm u rem, IX c r mm ns ns u rem 4 → rk (fun i => c 15 i 2) 4 = n + 1 → (∀ i, c 11 i 4 = A i) → (∀ v, v < 4 → rem v ≤ hc (n + 1) (rk (fun i => c 15 i 2) v) b (uN32 (c 8 0 2))) → ∃ N, N ≤ b + 1 + TB n ∧ ∃ τ, Play ns A N ((c, r), mm) τ := by
      intro b
      induction b with
      | zero =>
        intro c r mm u rem hI hn hA hr
        have hu : u = 0 := u_zero hI fun v hv => by
          have := hr v hv
          have e : hc (n + 1) (rk (fun i => c 15 i 2) v) 0 (uN32 (c 8 0 2)) = 0 := rfl
          omega
        exact ⟨0, by omega, _, rfl, ns, u, rem, hI, Or.inl hu, hA⟩
      | succ b ihb =>
        intro c r mm u rem hI hn hA hr
        by_cases hu : u = 0
        · exact ⟨0, by omega, _, rfl, ns, u, rem, hI, Or.inl hu, hA⟩
        obtain ⟨c', r', mm', fi', u', rem', w, q1, q2, q3, q4, q5, q6, q7, q8, q9⟩ := turn_sim hI (by omega)
        have hA' : ∀ i, c' 11 i 4 = A i := fun i => (q9 i).trans (hA i)
        have hgo : ∀ N, (∃ τ, Play ns A N ((c', r'), mm') τ) → ∃ τ, Play ns A (N + 1) ((c, r), mm) τ := fun N ⟨τ, h⟩ => ⟨τ, ⟨ns, u, rem, hI, by omega, by show 0 < rk (fun i => c 15 i 2) 4; omega⟩, ((c', r'), mm'), q1, q2, h⟩
        rcases q8 with q8 | ⟨s1, s2, s3⟩
        · obtain ⟨N, z1, z2⟩ := ih c' r' mm' fi' u' rem' q3 (by omega) hA'
          exact ⟨N + 1, by omega, hgo N z2⟩
        · have e15 : (fun i => c' 15 i 2) = fun i => c 15 i 2 := funext s1
          have hfi : fi' = ns := by rcases s3 with s | s | s <;> omega
          subst hfi
          obtain ⟨N, z1, z2⟩ := ihb c' r' mm' u' rem' q3 (by rw [e15]; exact hn) hA' (fun v hv => by
            rw [e15, q4]
            have hv' := hr v hv
            have eh : hc (n + 1) (rk (fun i => c 15 i 2) v) (b + 1) (uN32 (c 8 0 2)) = (if pos (n + 1) (nx (uN32 (c 8 0 2))) = rk (fun i => c 15 i 2) v then 1 else 0) + hc (n + 1) (rk (fun i => c 15 i 2) v) b (nx (uN32 (c 8 0 2))) := rfl
            rw [eh] at hv'
            rw [hn] at q7
            by_cases e : v = w
            · subst e
              rw [if_pos q7.symm] at hv'
              rcases s3 with s | s | s <;> omega
            · rw [s2 v e]
              by_cases z : c 15 v 2 = 0
              · rw [(rem_le hI hv).2.1 z]; omega
              · rw [if_neg (fun g => e (rk_inj (h := fun i => c 15 i 2) z q6 (by rw [← g, q7])))] at hv'
                omega)
          exact ⟨N + 1, by omega, hgo N z2⟩
    -- there is still something in the line
    have phA : ∀ (B : Nat) c r mm fi u rem, IX c r mm ns fi u rem 4 → rk (fun i => c 15 i 2) 4 = n + 1 → (∀ i, c 11 i 4 = A i) → 10 * (ns - fi) + rem 0 + rem 1 + rem 2 + rem 3 ≤ B → ∃ N, N ≤ B + tw (n + 1) + 1 + TB n ∧ ∃ τ, Play ns A N ((c, r), mm) τ := by
      intro B
      induction B with
      | zero =>
        intro c r mm fi u rem hI hn hA hB
        have hfi : fi = ns := by have := hI.2.1.1; omega
        subst hfi
        have hu : u = 0 := u_zero hI fun v hv => by
          rcases (show v = 0 ∨ v = 1 ∨ v = 2 ∨ v = 3 by omega) with rfl | rfl | rfl | rfl <;> omega
        exact ⟨0, by omega, _, rfl, fi, u, rem, hI, Or.inl hu, hA⟩
      | succ B ihB =>
        intro c r mm fi u rem hI hn hA hB
        by_cases hfi : fi = ns
        · subst hfi
          obtain ⟨N, z1, z2⟩ := phB (tw (n + 1)) c r mm u rem hI hn hA (fun v hv => by
            obtain ⟨g1, g2, g3⟩ := rem_le hI hv
            by_cases z : c 15 v 2 = 0
            · rw [g2 z]; omega
            · have hp : rk (fun i => c 15 i 2) v < n + 1 := by rw [← hn]; exact rk_lt (h := fun i => c 15 i 2) z hv
              have := hitsN (uN32 (c 8 0 2)) (by omega) hn4 hp
              omega)
          exact ⟨N, by omega, z2⟩
        by_cases hu : u = 0
        · exact ⟨0, by omega, _, rfl, fi, u, rem, hI, Or.inl hu, hA⟩
        have hfl : fi ≤ ns := hI.2.1.1
        obtain ⟨c', r', mm', fi', u', rem', w, q1, q2, q3, q4, q5, q6, q7, q8, q9⟩ := turn_sim hI (by omega)
        have hA' : ∀ i, c' 11 i 4 = A i := fun i => (q9 i).trans (hA i)
        have hgo : ∀ N, (∃ τ, Play ns A N ((c', r'), mm') τ) → ∃ τ, Play ns A (N + 1) ((c, r), mm) τ := fun N ⟨τ, h⟩ => ⟨τ, ⟨fi, u, rem, hI, by omega, by show 0 < rk (fun i => c 15 i 2) 4; omega⟩, ((c', r'), mm'), q1, q2, h⟩
        rcases q8 with q8 | ⟨s1, s2, s3⟩
        · obtain ⟨N, z1, z2⟩ := ih c' r' mm' fi' u' rem' q3 (by omega) hA'
          exact ⟨N + 1, by omega, hgo N z2⟩
        · have e15 : (fun i => c' 15 i 2) = fun i => c 15 i 2 := funext s1
          obtain ⟨N, z1, z2⟩ := ihB c' r' mm' fi' u' rem' q3 (by rw [e15]; exact hn) hA' (by
            rcases (show w = 0 ∨ w = 1 ∨ w = 2 ∨ w = 3 by omega) with rfl | rfl | rfl | rfl
            · have a := s2 1 (by decide); have b := s2 2 (by decide); have d := s2 3 (by decide)
              rcases s3 with s | s | s <;> omega
            · have a := s2 0 (by decide); have b := s2 2 (by decide); have d := s2 3 (by decide)
              rcases s3 with s | s | s <;> omega
            · have a := s2 0 (by decide); have b := s2 1 (by decide); have d := s2 3 (by decide)
              rcases s3 with s | s | s <;> omega
            · have a := s2 0 (by decide); have b := s2 1 (by decide); have d := s2 2 (by decide)
              rcases s3 with s | s | s <;> omega)
          exact ⟨N + 1, by omega, hgo N z2⟩
    intro c r mm fi u rem hI hn hA
    have hns : ns ≤ 10 := hI.1.2.2.1.1
    obtain ⟨N, z1, z2⟩ := phA 132 c r mm fi u rem hI hn hA (by
      have a := (rem_le hI (v := 0) (by decide)).1
      have b := (rem_le hI (v := 1) (by decide)).1
      have d := (rem_le hI (v := 2) (by decide)).1
      have e := (rem_le hI (v := 3) (by decide)).1
      omega)
    refine ⟨N, ?_, z2⟩
    have : TB (n + 1) = TB n + tw (n + 1) + 134 := rfl
    omega
theorem TB_le : ∀ n, n ≤ 4 → TB n ≤ 983584 := by
  intro n hn
  rcases (show n = 0 ∨ n = 1 ∨ n = 2 ∨ n = 3 ∨ n = 4 by omega) with rfl | rfl | rfl | rfl | rfl <;> decide
end
