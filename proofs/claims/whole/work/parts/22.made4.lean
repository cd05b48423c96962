def off (k i : Nat) : Nat := match k with
  | 10 => 38
  | 11 => 39 + 4 * i
  | 12 => 40 + 4 * i
  | 13 => 41 + 4 * i
  | 14 => 42 + 4 * i
  | 15 => 10 + 7 * i
  | 16 => 11 + 7 * i
  | 17 => 12 + 7 * i
  | 18 => 13 + 7 * i
  | 19 => 14 + 7 * i
  | 20 => 15 + 7 * i
  | 21 => 16 + 7 * i
  | 22 => 79
  | 30 => 80
  | 31 => 81
  | 33 => 82
  | 34 => 83
  | 35 => 84
  | 36 => 85
  | 37 => 86
  | 38 => 87
  | 39 => 88
  | 40 => 89
  | 41 => 90
  | 42 => 91
  | 43 => 92
  | 44 => 93
  | 45 => 94
  | 46 => 95
  | 47 => 96
  | 50 => 97
  | 51 => 98
  | 52 => 99
  | k => k
def m0c (k i j : Nat) : Int32 := if k = 0 ∧ j = 7 then 3 else if k = 0 ∧ j = 8 then 1000 else if k = 8 ∧ j = 1 then 1 else if k = 8 ∧ j = 4 then -2000000 else if k = 10 ∧ j = 1 then -2000000 else if k = 11 ∧ j = 5 then -2000000 else if k = 15 ∧ j = 2 ∧ i = 0 then 1 else 0
def m0m (k j : Nat) : Int32 := if k = 22 ∧ j = 25 then -2000000 else if k = 22 ∧ j = 26 then 3 else if k = 22 ∧ j = 27 then 1000 else if k = 22 ∧ j = 29 then -2000000 else if k = 30 then 1 else if k = 45 then -2000000 else if k = 50 ∧ j = 0 then 1 else 0
/-- both objects as they are made -/
def m0 : MW := ((m0c, fun _ _ => none), m0m)
theorem arrV_congr {c : ClassId} {n : Nat} {h h' : Nat → Value} (hag : ∀ j, j < n → h j = h' j) : arrV c n h = arrV c n h' := by
  unfold arrV
  congr 1
  apply congrArg
  funext j
  exact hag j.val j.isLt
theorem at_aI {D : va_G} {cl : List vw_C} {a : Nat} {c : ClassId} {n : Nat} {h h' : Nat → Int32} {H : Heap} (hag : ∀ j, j < n → h j = h' j) (hat : va_at D cl (a, aI c n h) H) : va_at D cl (a, aI c n h') H := by
  show H[a]? = some (vp_cell c (n, .inl h'))
  have e : H[a]? = some (vp_cell c (n, .inl h)) := hat
  rw [e, vp_cell_i, vp_cell_i]
  exact congrArg some (arrV_congr (fun j hj => by rw [hag j hj]))
theorem at_aR {D : va_G} {cl : List vw_C} {a : Nat} {c : ClassId} {n : Nat} {h h' : Nat → Option Nat} {H : Heap} (hag : ∀ j, j < n → h j = h' j) (hat : va_at D cl (a, aR c n h) H) : va_at D cl (a, aR c n h') H := by
  show H[a]? = some (vp_cell c (n, .inr (.inr (.inr (.inr h')))))
  have e : H[a]? = some (vp_cell c (n, .inr (.inr (.inr (.inr h))))) := hat
  rw [e, vp_cell_q, vp_cell_q]
  exact congrArg some (arrV_congr (fun j hj => by rw [hag j hj]))
set_option maxHeartbeats 4000000 in
theorem made_at {g : GG} (hg : ∀ k i, gad g k i = gbs g + off k i) {F : Nat → va_E} {H : Heap} (h1 : FsOk g F) (h2 : MoOk g F 79 80) (hat : ∀ j, j < 100 → va_at g.1 vwCl (gbs g + j, F j) H) : ∀ k i, i < cnt k → va_at g.1 vwCl (gad g k i, ent g m0 k i) H := fun k i h => match k, h with
  | 0, h => by
    have hi : i = 0 := by have h : i < 1 := h; omega
    subst hi
    have t := hat 0 (by decide)
    rw [h1.1] at t
    have e : ent g m0 0 0 = FsObj g 1 5 6 8 38 := by simp [ent, hg, off, m0, m0c, m0m]
    rw [hg, e]
    exact t
  | 1, h => by
    have hi : i = 0 := by have h : i < 1 := h; omega
    subst hi
    have t := hat 1 (by decide)
    rw [h1.2.1] at t
    have e : ent g m0 1 0 = .inr (2, [.ref (gbs g + 2), .ref (gbs g + 3), .ref (gbs g + 4)]) := by simp [ent, hg, off, m0, m0c, m0m]
    rw [hg, e]
    exact t
  | 2, h => by
    have hi : i = 0 := by have h : i < 1 := h; omega
    subst hi
    have t := hat 2 (by decide)
    rw [h1.2.2.1] at t
    rw [hg]
    exact at_aI (fun j hj => by simp [m0, m0c, m0m]) t
  | 3, h => by
    have hi : i = 0 := by have h : i < 1 := h; omega
    subst hi
    have t := hat 3 (by decide)
    rw [h1.2.2.2.1] at t
    rw [hg]
    exact at_aI (fun j hj => by simp [m0, m0c, m0m]) t
  | 4, h => by
    have hi : i = 0 := by have h : i < 1 := h; omega
    subst hi
    have t := hat 4 (by decide)
    rw [h1.2.2.2.2.1] at t
    rw [hg]
    exact at_aI (fun j hj => by simp [m0, m0c, m0m]) t
  | 5, h => by
    have hi : i = 0 := by have h : i < 1 := h; omega
    subst hi
    obtain ⟨hh, e, ha⟩ := h1.2.2.2.2.2.1
    have t := hat 5 (by decide)
    rw [e] at t
    rw [hg]
    exact at_aR (fun j hj => by rw [ha j hj, hg]; rfl) t
  | 6, h => by
    have hi : i = 0 := by have h : i < 1 := h; omega
    subst hi
    have t := hat 6 (by decide)
    rw [h1.2.2.2.2.2.2.1] at t
    have e : ent g m0 6 0 = .inr (3, [.ref (gbs g + 7), .int 0, .int 0]) := by simp [ent, hg, off, m0, m0c, m0m]
    rw [hg, e]
    exact t
  | 7, h => by
    have hi : i = 0 := by have h : i < 1 := h; omega
    subst hi
    have t := hat 7 (by decide)
    rw [h1.2.2.2.2.2.2.2.1] at t
    rw [hg]
    exact at_aR (fun j hj => rfl) t
  | 8, h => by
    have hi : i = 0 := by have h : i < 1 := h; omega
    subst hi
    have t := hat 8 (by decide)
    rw [h1.2.2.2.2.2.2.2.2.1] at t
    have e : ent g m0 8 0 = CrObj g 9 1 := by simp [ent, hg, off, m0, m0c, m0m]
    rw [hg, e]
    exact t
  | 9, h => by
    have hi : i = 0 := by have h : i < 1 := h; omega
    subst hi
    obtain ⟨hh, e, ha⟩ := h1.2.2.2.2.2.2.2.2.2.1
    have t := hat 9 (by decide)
    rw [e] at t
    rw [hg]
    exact at_aR (fun j hj => by rw [ha j hj, hg]; rfl) t
  | 10, h => by
    have hi : i = 0 := by have h : i < 1 := h; omega
    subst hi
    have t := hat 38 (by decide)
    rw [h1.2.2.2.2.2.2.2.2.2.2.2.1] at t
    have e : ent g m0 10 0 = .inr (5, [.int 0, .int (-2000000), .int 0, .int 0, .int 0, .int 0]) := by simp [ent, hg, off, m0, m0c, m0m]
    rw [hg, e]
    exact t
  | 11, h => by
    have h : i < 10 := h
    have t := hat (39 + 4 * i) (by omega)
    rw [(h1.2.2.2.2.2.2.2.2.2.2.2.2 i h).1] at t
    have e : ent g m0 11 i = .inr (4, [.ref (gbs g + (39 + 1 + 4 * i)), .ref (gbs g + (39 + 2 + 4 * i)), .ref (gbs g + (39 + 3 + 4 * i)), .int 0, .int 0, .int (-2000000), .int 0, .int 0, .int 0]) := by simp [ent, hg, off, m0, m0c]
    rw [hg, e]
    exact t
  | 12, h => by
    have h : i < 10 := h
    have t := hat (39 + 1 + 4 * i) (by omega)
    rw [(h1.2.2.2.2.2.2.2.2.2.2.2.2 i h).2.1] at t
    rw [hg]
    exact at_aI (fun j hj => by simp [m0, m0c]) t
  | 13, h => by
    have h : i < 10 := h
    have t := hat (39 + 2 + 4 * i) (by omega)
    rw [(h1.2.2.2.2.2.2.2.2.2.2.2.2 i h).2.2.1] at t
    rw [hg]
    exact at_aI (fun j hj => by simp [m0, m0c]) t
  | 14, h => by
    have h : i < 10 := h
    have t := hat (39 + 3 + 4 * i) (by omega)
    rw [(h1.2.2.2.2.2.2.2.2.2.2.2.2 i h).2.2.2] at t
    rw [hg]
    exact at_aI (fun j hj => by simp [m0, m0c]) t
  | 15, h => by
    have h : i < 4 := h
    have t := hat (9 + 1 + 7 * i) (by omega)
    rw [(h1.2.2.2.2.2.2.2.2.2.2.1 i h).1] at t
    have e : ent g m0 15 i = .inr (6, [.int (nI i), .ref (gbs g + (9 + 2 + 7 * i)), .int (if i = 0 then 1 else 0), .int 0, .null, .int 0]) := by simp [ent, hg, off, m0, m0c, va_rf]
    rw [hg, e]
    exact t
  | 16, h => by
    have h : i < 4 := h
    have t := hat (9 + 2 + 7 * i) (by omega)
    rw [(h1.2.2.2.2.2.2.2.2.2.2.1 i h).2.1] at t
    have e : ent g m0 16 i = .inr (0, [.ref (gbs g + (9 + 3 + 7 * i)), .ref (gbs g + (9 + 4 + 7 * i)), .int 0, .ref (gbs g + (9 + 5 + 7 * i)), .ref (gbs g + (9 + 6 + 7 * i)), .ref (gbs g + (9 + 7 + 7 * i))]) := by simp [ent, hg, off, m0, m0c]
    rw [hg, e]
    exact t
  | 17, h => by
    have h : i < 4 := h
    have t := hat (9 + 3 + 7 * i) (by omega)
    rw [(h1.2.2.2.2.2.2.2.2.2.2.1 i h).2.2.1] at t
    rw [hg]
    exact at_aI (fun j hj => by simp [m0, m0c]) t
  | 18, h => by
    have h : i < 4 := h
    have t := hat (9 + 4 + 7 * i) (by omega)
    rw [(h1.2.2.2.2.2.2.2.2.2.2.1 i h).2.2.2.1] at t
    rw [hg]
    exact at_aI (fun j hj => by simp [m0, m0c]) t
  | 19, h => by
    have h : i < 4 := h
    have t := hat (9 + 5 + 7 * i) (by omega)
    rw [(h1.2.2.2.2.2.2.2.2.2.2.1 i h).2.2.2.2.1] at t
    rw [hg]
    exact at_aI (fun j hj => by simp [m0, m0c]) t
  | 20, h => by
    have h : i < 4 := h
    have t := hat (9 + 6 + 7 * i) (by omega)
    rw [(h1.2.2.2.2.2.2.2.2.2.2.1 i h).2.2.2.2.2.1] at t
    rw [hg]
    exact at_aI (fun j hj => by simp [m0, m0c]) t
  | 21, h => by
    have h : i < 4 := h
    have t := hat (9 + 7 + 7 * i) (by omega)
    rw [(h1.2.2.2.2.2.2.2.2.2.2.1 i h).2.2.2.2.2.2] at t
    rw [hg]
    exact at_aI (fun j hj => by simp [m0, m0c]) t
  | 22, h => by
    have hi : i = 0 := by have h : i < 1 := h; omega
    subst hi
    have t := hat 79 (by decide)
    rw [h2.1] at t
    have e : ent g m0 22 0 = MoObj g 80 := by simp [ent, hg, off, m0, m0c, m0m]
    rw [hg, e]
    exact t
  | 30, h => by
    have hi : i = 0 := by have h : i < 1 := h; omega
    subst hi
    obtain ⟨hh, e, ha⟩ := h2.2.1
    have t := hat 80 (by decide)
    rw [e] at t
    rw [hg]
    exact at_aI (fun j hj => by rw [ha j hj]; simp [m0, m0m]) t
  | 31, h => by
    have hi : i = 0 := by have h : i < 1 := h; omega
    subst hi
    have t := hat 81 (by decide)
    rw [h2.2.2.2.2.1] at t
    rw [hg]
    exact at_aI (fun j hj => by simp [m0, m0c, m0m]) t
  | 33, h => by
    have hi : i = 0 := by have h : i < 1 := h; omega
    subst hi
    have t := hat 82 (by decide)
    rw [h2.2.2.2.2.2.1] at t
    rw [hg]
    exact at_aI (fun j hj => by simp [m0, m0c, m0m]) t
  | 34, h => by
    have hi : i = 0 := by have h : i < 1 := h; omega
    subst hi
    have t := hat 83 (by decide)
    rw [h2.2.2.2.2.2.2.1] at t
    rw [hg]
    exact at_aI (fun j hj => by simp [m0, m0c, m0m]) t
  | 35, h => by
    have hi : i = 0 := by have h : i < 1 := h; omega
    subst hi
    have t := hat 84 (by decide)
    rw [h2.2.2.2.2.2.2.2.1] at t
    rw [hg]
    exact at_aI (fun j hj => by simp [m0, m0c, m0m]) t
  | 36, h => by
    have hi : i = 0 := by have h : i < 1 := h; omega
    subst hi
    have t := hat 85 (by decide)
    rw [h2.2.2.2.2.2.2.2.2.1] at t
    rw [hg]
    exact at_aI (fun j hj => by simp [m0, m0c, m0m]) t
  | 37, h => by
    have hi : i = 0 := by have h : i < 1 := h; omega
    subst hi
    have t := hat 86 (by decide)
    rw [h2.2.2.2.2.2.2.2.2.2.1] at t
    rw [hg]
    exact at_aI (fun j hj => by simp [m0, m0c, m0m]) t
  | 38, h => by
    have hi : i = 0 := by have h : i < 1 := h; omega
    subst hi
    have t := hat 87 (by decide)
    rw [h2.2.2.2.2.2.2.2.2.2.2.1] at t
    rw [hg]
    exact at_aI (fun j hj => by simp [m0, m0c, m0m]) t
  | 39, h => by
    have hi : i = 0 := by have h : i < 1 := h; omega
    subst hi
    have t := hat 88 (by decide)
    rw [h2.2.2.2.2.2.2.2.2.2.2.2.1] at t
    rw [hg]
    exact at_aI (fun j hj => by simp [m0, m0c, m0m]) t
  | 40, h => by
    have hi : i = 0 := by have h : i < 1 := h; omega
    subst hi
    have t := hat 89 (by decide)
    rw [h2.2.2.2.2.2.2.2.2.2.2.2.2.1] at t
    rw [hg]
    exact at_aI (fun j hj => by simp [m0, m0c, m0m]) t
  | 41, h => by
    have hi : i = 0 := by have h : i < 1 := h; omega
    subst hi
    have t := hat 90 (by decide)
    rw [h2.2.2.2.2.2.2.2.2.2.2.2.2.2.1] at t
    rw [hg]
    exact at_aI (fun j hj => by simp [m0, m0c, m0m]) t
  | 42, h => by
    have hi : i = 0 := by have h : i < 1 := h; omega
    subst hi
    have t := hat 91 (by decide)
    rw [h2.2.2.2.2.2.2.2.2.2.2.2.2.2.2.1] at t
    rw [hg]
    exact at_aI (fun j hj => by simp [m0, m0c, m0m]) t
  | 43, h => by
    have hi : i = 0 := by have h : i < 1 := h; omega
    subst hi
    have t := hat 92 (by decide)
    rw [h2.2.2.2.2.2.2.2.2.2.2.2.2.2.2.2.1] at t
    rw [hg]
    exact at_aI (fun j hj => by simp [m0, m0c, m0m]) t
  | 44, h => by
    have hi : i = 0 := by have h : i < 1 := h; omega
    subst hi
    have t := hat 93 (by decide)
    rw [h2.2.2.2.2.2.2.2.2.2.2.2.2.2.2.2.2.1] at t
    rw [hg]
    exact at_aI (fun j hj => by simp [m0, m0c, m0m]) t
  | 45, h => by
    have hi : i = 0 := by have h : i < 1 := h; omega
    subst hi
    obtain ⟨hh, e, ha⟩ := h2.2.2.1
    have t := hat 94 (by decide)
    rw [e] at t
    rw [hg]
    exact at_aI (fun j hj => by rw [ha j hj]; simp [m0, m0m]) t
  | 46, h => by
    have hi : i = 0 := by have h : i < 1 := h; omega
    subst hi
    have t := hat 95 (by decide)
    rw [h2.2.2.2.2.2.2.2.2.2.2.2.2.2.2.2.2.2.1] at t
    rw [hg]
    exact at_aI (fun j hj => by simp [m0, m0c, m0m]) t
  | 47, h => by
    have hi : i = 0 := by have h : i < 1 := h; omega
    subst hi
    have t := hat 96 (by decide)
    rw [h2.2.2.2.2.2.2.2.2.2.2.2.2.2.2.2.2.2.2.1] at t
    rw [hg]
    exact at_aI (fun j hj => by simp [m0, m0c, m0m]) t
  | 50, h => by
    have hi : i = 0 := by have h : i < 1 := h; omega
    subst hi
    have t := hat 97 (by decide)
    rw [h2.2.2.2.1] at t
    rw [hg]
    exact at_aI (fun j hj => by by_cases h0 : j = 0 <;> simp [m0, m0m, upd, h0]) t
  | 51, h => by
    have hi : i = 0 := by have h : i < 1 := h; omega
    subst hi
    have t := hat 98 (by decide)
    rw [h2.2.2.2.2.2.2.2.2.2.2.2.2.2.2.2.2.2.2.2.1] at t
    rw [hg]
    exact at_aI (fun j hj => by simp [m0, m0c, m0m]) t
  | 52, h => by
    have hi : i = 0 := by have h : i < 1 := h; omega
    subst hi
    have t := hat 99 (by decide)
    rw [h2.2.2.2.2.2.2.2.2.2.2.2.2.2.2.2.2.2.2.2.2] at t
    rw [hg]
    exact at_aI (fun j hj => by simp [m0, m0c, m0m]) t
  | 23, h => absurd h (Nat.not_lt_zero i)
  | 24, h => absurd h (Nat.not_lt_zero i)
  | 25, h => absurd h (Nat.not_lt_zero i)
  | 26, h => absurd h (Nat.not_lt_zero i)
  | 27, h => absurd h (Nat.not_lt_zero i)
  | 28, h => absurd h (Nat.not_lt_zero i)
  | 29, h => absurd h (Nat.not_lt_zero i)
  | 32, h => absurd h (Nat.not_lt_zero i)
  | 48, h => absurd h (Nat.not_lt_zero i)
  | 49, h => absurd h (Nat.not_lt_zero i)
  | k + 53, h => absurd h (Nat.not_lt_zero i)
set_option maxHeartbeats 4000000 in
theorem made_pic {g : GG} (hg : ∀ k i, gad g k i = gbs g + off k i) {F : Nat → va_E} {H : Heap} (h1 : FsOk g F) (h2 : MoOk g F 79 80) (hP : va_P g.1 vwCl (picN g 100 F) H) : va_P g.1 vwCl (pic g m0) H := by
  have hat : ∀ j, j < 100 → va_at g.1 vwCl (gbs g + j, F j) H := fun j hj => hP j _ (picN_at hj)
  have key : ∀ k i, i < cnt k → va_at g.1 vwCl (gad g k i, ent g m0 k i) H := fun k i h => made_at hg h1 h2 hat k i h
  intro q x hx
  simp only [pic, List.getElem?_map] at hx
  cases hb : ids[q]? with
  | none => rw [hb] at hx; cases hx
  | some b =>
    rw [hb] at hx
    cases hx
    obtain ⟨k, i⟩ := b
    have hm : (k, i) ∈ ids := List.mem_of_getElem? hb
    obtain ⟨a, ha, hm⟩ := List.mem_flatMap.mp hm
    obtain ⟨b, hb2, hm⟩ := List.mem_map.mp hm
    cases hm
    exact key _ _ (List.mem_range.mp hb2)
