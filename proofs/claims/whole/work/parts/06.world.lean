/-! THE WORLD: the class's cells and the reference's, by kind and number. -/
abbrev MC : Type := (Nat → Nat → Nat → Int32) × (Nat → Nat → Option Nat)
abbrev MM : Type := Nat → Nat → Int32
abbrev MW : Type := MC × MM
def up3 (c : Nat → Nat → Nat → Int32) (k i j : Nat) (v : Int32) : Nat → Nat → Nat → Int32 := fun k' i' j' => if k' = k ∧ i' = i ∧ j' = j then v else c k' i' j'
def up2 (c : Nat → Nat → Int32) (k j : Nat) (v : Int32) : Nat → Nat → Int32 := fun k' j' => if k' = k ∧ j' = j then v else c k' j'
def upr (c : Nat → Nat → Option Nat) (k j : Nat) (v : Option Nat) : Nat → Nat → Option Nat := fun k' j' => if k' = k ∧ j' = j then v else c k' j'
abbrev GG : Type := va_G × (ClassId × ClassId × ClassId × ClassId) × (Nat → Nat → Nat) × Nat × Nat
def gad (g : GG) : Nat → Nat → Nat := g.2.2.1
def gA (g : GG) : Nat → Prop := fun q => g.2.2.2.1 ≤ q
def gtB (g : GG) : Nat := g.2.2.2.2
def gcI (g : GG) : ClassId := g.2.1.1
def gcZ (g : GG) : ClassId := g.2.1.2.1
def gcS (g : GG) : ClassId := g.2.1.2.2.1
def gcW (g : GG) : ClassId := g.2.1.2.2.2
def gty (g : GG) : List (ClassId × FieldType) := [(gcI g, .int), (gcZ g, .boolean), (gcS g, .object RX4), (gcW g, .object RX6)]
abbrev aI (c : ClassId) (n : Nat) (f : Nat → Int32) : va_E := .inl (c, n, .inl f)
abbrev aR (c : ClassId) (n : Nat) (f : Nat → Option Nat) : va_E := .inl (c, n, .inr (.inr (.inr (.inr f))))
def ent (g : GG) (m : MW) (k i : Nat) : va_E := match k with
  | 0 => .inr (7, [.ref (gad g 1 0), .ref (gad g 5 0), .ref (gad g 6 0), .ref (gad g 8 0), .ref (gad g 10 0), .int (m.1.1 0 i 5), .int (m.1.1 0 i 6), .int (m.1.1 0 i 7), .int (m.1.1 0 i 8)])
  | 1 => .inr (2, [.ref (gad g 2 0), .ref (gad g 3 0), .ref (gad g 4 0)])
  | 2 => aI (gcZ g) 10 (m.1.1 2 i)
  | 3 => aI (gcI g) 10 (m.1.1 3 i)
  | 4 => aI (gcI g) 10 (m.1.1 4 i)
  | 5 => aR (gcS g) 10 (fun j => some (gad g 11 j))
  | 6 => .inr (3, [.ref (gad g 7 0), .int (m.1.1 6 i 1), .int (m.1.1 6 i 2)])
  | 7 => aR (gcS g) 10 (fun j => (m.1.2 1 j).map (gad g 11))
  | 8 => .inr (1, [.ref (gad g 9 0), .int (m.1.1 8 i 1), .int (m.1.1 8 i 2), .int (m.1.1 8 i 3), .int (m.1.1 8 i 4)])
  | 9 => aR (gcW g) 4 (fun j => some (gad g 15 j))
  | 10 => .inr (5, [.int (m.1.1 10 i 0), .int (m.1.1 10 i 1), .int (m.1.1 10 i 2), .int (m.1.1 10 i 3), .int (m.1.1 10 i 4), .int (m.1.1 10 i 5)])
  | 11 => .inr (4, [.ref (gad g 12 i), .ref (gad g 13 i), .ref (gad g 14 i), .int (m.1.1 11 i 3), .int (m.1.1 11 i 4), .int (m.1.1 11 i 5), .int (m.1.1 11 i 6), .int (m.1.1 11 i 7), .int (m.1.1 11 i 8)])
  | 12 => aI (gcI g) 8 (m.1.1 12 i)
  | 13 => aI (gcI g) 8 (m.1.1 13 i)
  | 14 => aI (gcI g) 8 (m.1.1 14 i)
  | 15 => .inr (6, [.int (nI i), .ref (gad g 16 i), .int (m.1.1 15 i 2), .int (m.1.1 15 i 3), va_rf ((m.1.2 0 i).map (gad g 11)), .int (m.1.1 15 i 5)])
  | 16 => .inr (0, [.ref (gad g 17 i), .ref (gad g 18 i), .int (m.1.1 16 i 2), .ref (gad g 19 i), .ref (gad g 20 i), .ref (gad g 21 i)])
  | 17 => aI (gcI g) 3 (m.1.1 17 i)
  | 18 => aI (gcI g) 3 (m.1.1 18 i)
  | 19 => aI (gcZ g) 3 (m.1.1 19 i)
  | 20 => aI (gcI g) 3 (m.1.1 20 i)
  | 21 => aI (gcI g) 3 (m.1.1 21 i)
  | 22 => .inr (8, [.ref (gad g 30 0), .ref (gad g 31 0), .int (m.2 22 2), .ref (gad g 33 0), .ref (gad g 34 0), .ref (gad g 35 0), .ref (gad g 36 0), .ref (gad g 37 0), .ref (gad g 38 0), .ref (gad g 39 0), .ref (gad g 40 0), .ref (gad g 41 0), .ref (gad g 42 0), .ref (gad g 43 0), .ref (gad g 44 0), .ref (gad g 45 0), .ref (gad g 46 0), .ref (gad g 47 0), .int (m.2 22 18), .int (m.2 22 19), .ref (gad g 50 0), .ref (gad g 51 0), .ref (gad g 52 0), .int (m.2 22 23), .int (m.2 22 24), .int (m.2 22 25), .int (m.2 22 26), .int (m.2 22 27), .int (m.2 22 28), .int (m.2 22 29), .int (m.2 22 30), .int (m.2 22 31), .int (m.2 22 32), .int (m.2 22 33)])
  | 30 => aI (gcI g) 10 (m.2 30)
  | 31 => aI (gcI g) 10 (m.2 31)
  | 33 => aI (gcI g) 10 (m.2 33)
  | 34 => aI (gcI g) 10 (m.2 34)
  | 35 => aI (gcI g) 80 (m.2 35)
  | 36 => aI (gcI g) 80 (m.2 36)
  | 37 => aI (gcI g) 80 (m.2 37)
  | 38 => aI (gcI g) 10 (m.2 38)
  | 39 => aI (gcI g) 10 (m.2 39)
  | 40 => aI (gcI g) 30 (m.2 40)
  | 41 => aI (gcI g) 30 (m.2 41)
  | 42 => aI (gcI g) 30 (m.2 42)
  | 43 => aI (gcI g) 30 (m.2 43)
  | 44 => aI (gcI g) 10 (m.2 44)
  | 45 => aI (gcI g) 10 (m.2 45)
  | 46 => aI (gcZ g) 10 (m.2 46)
  | 47 => aI (gcI g) 400 (m.2 47)
  | 50 => aI (gcZ g) 4 (m.2 50)
  | 51 => aI (gcI g) 4 (m.2 51)
  | 52 => aI (gcI g) 4 (m.2 52)
  | _ => .inr (0, [])
/-- how many there are of a kind -/
def cnt (k : Nat) : Nat := match k with
  | 11 => 10 | 12 => 10 | 13 => 10 | 14 => 10
  | 15 => 4 | 16 => 4 | 17 => 4 | 18 => 4 | 19 => 4 | 20 => 4 | 21 => 4
  | 0 => 1 | 1 => 1 | 2 => 1 | 3 => 1 | 4 => 1 | 5 => 1 | 6 => 1 | 7 => 1 | 8 => 1 | 9 => 1 | 10 => 1 | 22 => 1
  | 30 => 1 | 31 => 1 | 33 => 1 | 34 => 1 | 35 => 1 | 36 => 1 | 37 => 1 | 38 => 1 | 39 => 1 | 40 => 1 | 41 => 1 | 42 => 1 | 43 => 1 | 44 => 1 | 45 => 1 | 46 => 1 | 47 => 1 | 50 => 1 | 51 => 1 | 52 => 1
  | _ => 0
def ids : List (Nat × Nat) := (List.range 53).flatMap (fun k => (List.range (cnt k)).map (fun i => (k, i)))
theorem ids_nd : ids.Nodup := by decide +kernel
theorem ids_in {k i : Nat} (h : i < cnt k) : (k, i) ∈ ids := by
  have hk : k < 53 := by
    rcases Nat.lt_or_ge k 53 with h1 | h1
    · exact h1
    · exfalso
      have : cnt k = 0 := by
        obtain ⟨j, rfl⟩ := Nat.exists_eq_add_of_le h1
        rw [Nat.add_comm]
        rfl
      omega
  exact List.mem_flatMap.mpr ⟨k, List.mem_range.mpr hk, List.mem_map.mpr ⟨i, List.mem_range.mpr h, rfl⟩⟩
def pic (g : GG) (m : MW) : va_W := ids.map (fun q => (gad g q.1 q.2, ent g m q.1 q.2))
theorem pic_at (g : GG) (m : MW) {k i q : Nat} (h : ids[q]? = some (k, i)) : (pic g m)[q]? = some (gad g k i, ent g m k i) := by
  simp only [pic, List.getElem?_map, h, Option.map_some]
theorem ids_pos {k i : Nat} (h : i < cnt k) : ∃ q : Nat, ids[q]? = some (k, i) := List.getElem?_of_mem (ids_in h)
theorem pic_set (g : GG) (m m' : MW) {k i q : Nat} {e : va_E} (h : ids[q]? = some (k, i)) (he : ent g m' k i = e) (ho : ∀ k' i', (k' ≠ k ∨ i' ≠ i) → i' < cnt k' → ent g m' k' i' = ent g m k' i') : (pic g m).set q (gad g k i, e) = pic g m' := by
  have hql := (List.getElem?_eq_some_iff.mp h).1
  apply List.ext_getElem?
  intro j
  by_cases hj : j = q
  · subst hj
    rw [List.getElem?_set_self (by simpa [pic] using hql), pic_at g m' h, he]
  · rw [List.getElem?_set_ne (Ne.symm hj)]
    simp only [pic, List.getElem?_map]
    cases hb : ids[j]? with
    | none => rfl
    | some b =>
      obtain ⟨k', i'⟩ := b
      have hne : k' ≠ k ∨ i' ≠ i := by
        by_cases h1 : k' = k
        · by_cases h2 : i' = i
          · subst h1; subst h2
            exfalso
            have hjl := (List.getElem?_eq_some_iff.mp hb).1
            have := (List.getElem?_inj hjl ids_nd).mp (hb.trans h.symm)
            exact hj this
          · exact Or.inr h2
        · exact Or.inl h1
      have hc : i' < cnt k' := by
        have hm : (k', i') ∈ ids := List.mem_of_getElem? hb
        obtain ⟨a, ha, hm⟩ := List.mem_flatMap.mp hm
        obtain ⟨b, hb2, hm⟩ := List.mem_map.mp hm
        cases hm
        exact List.mem_range.mp hb2
      simp only [Option.map_some, ho k' i' hne hc]
theorem up3_ne {c : Nat → Nat → Nat → Int32} {k i j : Nat} {v : Int32} {k' i' : Nat} (h : k' ≠ k ∨ i' ≠ i) : up3 c k i j v k' i' = c k' i' := by
  funext j'
  unfold up3
  rw [if_neg]
  rintro ⟨a, b, -⟩
  rcases h with h | h
  · exact h a
  · exact h b
theorem up3_eq {c : Nat → Nat → Nat → Int32} {k i j : Nat} {v : Int32} : up3 c k i j v k i = upd (c k i) j v := by
  funext j'
  simp [up3, upd]
theorem up3_self {c : Nat → Nat → Nat → Int32} {k i j : Nat} {v : Int32} : up3 c k i j v k i j = v := by simp [up3]
theorem up3_nj {c : Nat → Nat → Nat → Int32} {k i j j' : Nat} {v : Int32} (h : j' ≠ j) : up3 c k i j v k i j' = c k i j' := by simp [up3, h]
theorem up2_ne {c : Nat → Nat → Int32} {k j : Nat} {v : Int32} {k' : Nat} (h : k' ≠ k) : up2 c k j v k' = c k' := by
  funext j'
  simp [up2, h]
theorem up2_eq {c : Nat → Nat → Int32} {k j : Nat} {v : Int32} : up2 c k j v k = upd (c k) j v := by
  funext j'
  simp [up2, upd]
theorem upr_ne {c : Nat → Nat → Option Nat} {k j : Nat} {v : Option Nat} {k' j' : Nat} (h : k' ≠ k ∨ j' ≠ j) : upr c k j v k' j' = c k' j' := by
  unfold upr
  rw [if_neg]
  rintro ⟨a, b⟩
  rcases h with h | h
  · exact h a
  · exact h b
/-- which kinds hold the mutable references -/
theorem ent_ne3 (g : GG) (m : MW) (k i j : Nat) (v : Int32) (k' i' : Nat) (h : k' ≠ k ∨ i' ≠ i) : ent g ((up3 m.1.1 k i j v, m.1.2), m.2) k' i' = ent g m k' i' := by
  have h2 := fun j' => congrFun (up3_ne (c := m.1.1) (j := j) (v := v) h) j'
  have h1 := up3_ne (c := m.1.1) (j := j) (v := v) h
  unfold ent
  split <;> first | rfl | simp only [h1, h2]
theorem ent_ne2 (g : GG) (m : MW) (k j : Nat) (v : Int32) (k' i' : Nat) (h : k' ≠ k) : ent g (m.1, up2 m.2 k j v) k' i' = ent g m k' i' := by
  have h2 := fun j' => congrFun (up2_ne (c := m.2) (j := j) (v := v) h) j'
  have h1 := up2_ne (c := m.2) (j := j) (v := v) h
  unfold ent
  split <;> first | rfl | simp only [h1, h2]
theorem ent_ner0 (g : GG) (m : MW) (w : Nat) (v : Option Nat) (k' i' : Nat) (h : k' ≠ 15 ∨ i' ≠ w) : ent g ((m.1.1, upr m.1.2 0 w v), m.2) k' i' = ent g m k' i' := by
  have h1 : ∀ j', upr m.1.2 0 w v 1 j' = m.1.2 1 j' := fun j' => upr_ne (Or.inl (by decide))
  by_cases hk : k' = 15
  · subst hk
    have h2 : i' ≠ w := by
      rcases h with h | h
      · exact absurd rfl h
      · exact h
    have h3 : upr m.1.2 0 w v 0 i' = m.1.2 0 i' := upr_ne (Or.inr h2)
    simp only [ent, h3]
  · unfold ent
    split <;> first | rfl | exact absurd rfl hk | simp only [h1]
theorem ent_ner1 (g : GG) (m : MW) (j : Nat) (v : Option Nat) (k' i' : Nat) (h : k' ≠ 7) : ent g ((m.1.1, upr m.1.2 1 j v), m.2) k' i' = ent g m k' i' := by
  have h1 : ∀ j', upr m.1.2 1 j v 0 j' = m.1.2 0 j' := fun j' => upr_ne (Or.inl (by decide))
  unfold ent
  split <;> first | rfl | exact absurd rfl h | simp only [h1]
