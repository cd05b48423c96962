theorem off_all : ∀ q1, q1 < ids.length → ∀ q2, q2 < ids.length → off (ids.getD q1 (0, 0)).1 (ids.getD q1 (0, 0)).2 = off (ids.getD q2 (0, 0)).1 (ids.getD q2 (0, 0)).2 → q1 = q2 := by
  have h : (ids.map (fun q => off q.1 q.2)).Nodup := by decide +kernel
  intro q1 h1 q2 h2 he
  have e1 : (ids.map (fun q => off q.1 q.2))[q1]? = some (off (ids.getD q1 (0, 0)).1 (ids.getD q1 (0, 0)).2) := by
    rw [List.getElem?_map, List.getElem?_eq_getElem h1]
    simp [List.getD, List.getElem?_eq_getElem h1]
  have e2 : (ids.map (fun q => off q.1 q.2))[q2]? = some (off (ids.getD q2 (0, 0)).1 (ids.getD q2 (0, 0)).2) := by
    rw [List.getElem?_map, List.getElem?_eq_getElem h2]
    simp [List.getD, List.getElem?_eq_getElem h2]
  rw [← he] at e2
  exact (List.getElem?_inj (by simpa using h1) h).mp (e1.trans e2.symm)
theorem off_inj {q1 q2 k1 i1 k2 i2 : Nat} (h1 : ids[q1]? = some (k1, i1)) (h2 : ids[q2]? = some (k2, i2)) (he : off k1 i1 = off k2 i2) : q1 = q2 := by
  refine off_all q1 (List.getElem?_eq_some_iff.mp h1).1 q2 (List.getElem?_eq_some_iff.mp h2).1 ?_
  simp only [List.getD, h1, h2, Option.getD_some]
  exact he
theorem FsOk.kept {g : GG} {F F' : Nat → va_E} (h : FsOk g F) (hk : ∀ a, a < 79 → F' a = F a) : FsOk g F' := by
  obtain ⟨h0, h1, h2, h3, h4, ⟨p5, h5, h5a⟩, h6, h7, h8, ⟨p9, h9, h9a⟩, h10, h11, h12⟩ := h
  refine ⟨?_, ?_, ?_, ?_, ?_, ⟨p5, ?_, h5a⟩, ?_, ?_, ?_, ⟨p9, ?_, h9a⟩, fun j hj => (h10 j hj).kept (fun a b1 b2 => hk a (by omega)), ?_, fun j hj => (h12 j hj).kept (fun a b1 b2 => hk a (by omega))⟩
  · rw [hk _ (by omega)]; exact h0
  · rw [hk _ (by omega)]; exact h1
  · rw [hk _ (by omega)]; exact h2
  · rw [hk _ (by omega)]; exact h3
  · rw [hk _ (by omega)]; exact h4
  · rw [hk _ (by omega)]; exact h5
  · rw [hk _ (by omega)]; exact h6
  · rw [hk _ (by omega)]; exact h7
  · rw [hk _ (by omega)]; exact h8
  · rw [hk _ (by omega)]; exact h9
  · rw [hk _ (by omega)]; exact h11
theorem ku_astore {p : Program} {l : Launch} {e : Env} {R : Room} {s : State} {mi : MethodId} {args : Array Value} {below : List Frame} {meth : Method} {c : Code} {cl sl : Nat} {Q : State → Prop} {g : GG} {nL : Nat} {n : Nat} {f : Nat → va_E} {pc : Nat} {lv : List (Nat × Value)} {rest : List Value} {cc : ByteArray} {own : String} {nm : String} {rt : Option FieldType} (C : CU p s mi args meth c cc own nL nm rt g) {k : Fin 4} {i : Nat} {x : Nat} {lv' : List (Nat × Value)} (hdg : decode cc pc = .ok (.astore_n k, 1)) (hi : (k : Nat) = i) (hn : i < nL) (hl' : (i, Value.ref x) :: lv.filter (fun q => !(q.1 == i) && !(q.1 + 1 == i && q.2.category == 2)) = lv') (kk : UU p l e R s mi args below meth c Q g nL n f cl sl (pc + 1) lv' rest) : UU p l e R s mi args below meth c Q g nL n f cl sl pc lv (.ref x :: rest) := ku_astore_n C hdg hi hn hl' kk
theorem arr_prim {s : State} {args : Array Value} {ty : FieldType} (hn : ∀ C, ty ≠ .object C) (h : (Cond.arrayClass ty).before args s = true) : ∃ cA : ClassId, ArrOfT s cA ty ∧ va_RA s cA ty := by
  obtain ⟨cA, kA, comp, h1, h2, h3⟩ := Cond.arrayClass_spec h
  refine ⟨cA, fun n z => ⟨fun k h => (by cases h), kA, h2, comp, h3⟩, ?_⟩
  cases ty with
  | object C => exact absurd rfl (hn C)
  | _ => exact h1
theorem arr_obj {s : State} {args : Array Value} {C : String} (h : (Cond.arrayOver (.object C)).before args s = true) : ∃ cA : ClassId, ArrOfT s cA (.object C) ∧ va_RA s cA (.object C) := by
  obtain ⟨comp, cA, kA, h1, -, h3, h4, h5⟩ := Cond.arrayOver_spec h
  exact ⟨cA, fun n z => ⟨fun k h => (by cases h), kA, h3, comp, h4⟩, kA, comp, h3, h4, h1, h5⟩
set_option maxHeartbeats 4000000 in
set_option maxRecDepth 100000 in
/-- THE LAW, from its entry, out of the pure statement on its loop -/
theorem whole_open (hpure : ∀ (L : Nat) (xs : Nat → Int32), L ≤ 2560 → ∃ n, V_L_law_18 n xs L 0 m0) {p : Program} {e : Env} {s : State} {m : MethodId} {below : List Frame} {meth : Method} {c : Code} (l : Launch) {b L : Nat} {xs : Nat → Int32} (hL : L ≤ 2560) (C0 : lw_At p s m meth c b L xs) : W p l e room_1 s m #[Value.ref b] below meth c s.heap [] 0 0 (lw_Z below #[Value.ref b] s) (entryFrame m ([Value.ref b] : List Value).toArray 4) := by
  obtain ⟨hx, hb, hr, hml, hown, hts0, hX, hbl, hlocks, hgv⟩ := id C0
  have hts : ∀ w ∈ wsL_law, w.before #[Value.ref b] s = true := fun w h => hts0 w (wsL_law_in w h)
  obtain ⟨c0, iS0, hK0⟩ := u_known (C := RX0) (T := TX0) (N := 6) (n := 6) hts inlX0 (hts (.instantiable RX0 6) (by first | exact wd_69))
  obtain ⟨c1, iS1, hK1⟩ := u_known (C := RX1) (T := TX1) (N := 5) (n := 5) hts inlX1 (hts (.instantiable RX1 5) (by first | exact wd_23))
  obtain ⟨c2, iS2, hK2⟩ := u_known (C := RX2) (T := TX2) (N := 3) (n := 3) hts inlX2 (hts (.instantiable RX2 3) (by first | exact wd_13))
  obtain ⟨c3, iS3, hK3⟩ := u_known (C := RX3) (T := TX3) (N := 3) (n := 3) hts inlX3 (hts (.instantiable RX3 3) (by first | exact wd_19))
  obtain ⟨c4, iS4, hK4⟩ := u_known (C := RX4) (T := TX4) (N := 9) (n := 9) hts inlX4 (hts (.instantiable RX4 9) (by first | exact wd_34))
  obtain ⟨c5, iS5, hK5⟩ := u_known (C := RX5) (T := TX5) (N := 6) (n := 6) hts inlX5 (hts (.instantiable RX5 6) (by first | exact wd_27))
  obtain ⟨c6, iS6, hK6⟩ := u_known (C := RX6) (T := TX6) (N := 6) (n := 6) hts inlX6 (hts (.instantiable RX6 6) (by first | exact wd_62))
  obtain ⟨c7, iS7, hK7⟩ := u_known (C := RX7) (T := TX7) (N := 9) (n := 9) hts inlX7 (hts (.instantiable RX7 9) (by first | exact wd_1))
  obtain ⟨c8, iS8, hK8⟩ := u_known (C := RX8) (T := TX8) (N := 34) (n := 34) hts inlX8 (hts (.instantiable RX8 34) (by first | exact wd_4))
  obtain ⟨dC, dI, hKc⟩ : ∃ (dC : Nat → ClassId) (dI : Nat → Nat → Nat), ∀ (k : Nat) (q : vw_C), vwCl[k]? = some q → u_Kn s q.1 q.2.1 q.2.2 (dC k) (dI k) := by
    refine ⟨fun k => [c0, c1, c2, c3, c4, c5, c6, c7, c8].getD k c0, fun k => [iS0, iS1, iS2, iS3, iS4, iS5, iS6, iS7, iS8].getD k iS0, ?_⟩
    intro k q hq
    match k, hq with
    | 0, hq => cases hq; exact hK0
    | 1, hq => cases hq; exact hK1
    | 2, hq => cases hq; exact hK2
    | 3, hq => cases hq; exact hK3
    | 4, hq => cases hq; exact hK4
    | 5, hq => cases hq; exact hK5
    | 6, hq => cases hq; exact hK6
    | 7, hq => cases hq; exact hK7
    | 8, hq => cases hq; exact hK8
    | k + 9, hq => simp [vwCl] at hq
  obtain ⟨cI, hI1, hI2⟩ := arr_prim (ty := .int) (fun _ h => by cases h) (hts (.arrayClass .int) wd_41)
  obtain ⟨cZ, hZ1, hZ2⟩ := arr_prim (ty := .boolean) (fun _ h => by cases h) (hts (.arrayClass .boolean) wd_39)
  obtain ⟨cS, hS1, hS2⟩ := arr_obj (hts0 _ wx_ao4)
  obtain ⟨cW, hW1, hW2⟩ := arr_obj (hts0 _ wx_ao6)
  have hs := flat_of_before _ hgv
  have hA0 : ∀ a : Nat, a < s.heap.size → ¬ (fun q => s.heap.size ≤ q) a := fun a h1 h2 => absurd h1 (Nat.not_lt.mpr h2)
  obtain ⟨tB, hev, hTB⟩ := va_Tof (A := fun q => s.heap.size ≤ q) (N := 9) (f := fun j => .int (bnd j)) (ty := .int) (by decide) (hs (Cond.arrayOf (.static "FactShares$Facts" "BOUNDS" "[I") .int) (by decide +kernel)) (va_eqt (hs (Cond.eq (.length (.static "FactShares$Facts" "BOUNDS" "[I")) (.int 9)) (by decide +kernel))) (fun j hj => by
    rcases (show j = 0 ∨ j = 1 ∨ j = 2 ∨ j = 3 ∨ j = 4 ∨ j = 5 ∨ j = 6 ∨ j = 7 ∨ j = 8 by omega) with rfl | rfl | rfl | rfl | rfl | rfl | rfl | rfl | rfl
    · exact va_eqt (hs (Cond.eq (.elem (.static "FactShares$Facts" "BOUNDS" "[I") (.int 0)) (.int (-1000000))) (by decide +kernel))
    · exact va_eqt (hs (Cond.eq (.elem (.static "FactShares$Facts" "BOUNDS" "[I") (.int 1)) (.int (-1000))) (by decide +kernel))
    · exact va_eqt (hs (Cond.eq (.elem (.static "FactShares$Facts" "BOUNDS" "[I") (.int 2)) (.int (-100))) (by decide +kernel))
    · exact va_eqt (hs (Cond.eq (.elem (.static "FactShares$Facts" "BOUNDS" "[I") (.int 3)) (.int (-10))) (by decide +kernel))
    · exact va_eqt (hs (Cond.eq (.elem (.static "FactShares$Facts" "BOUNDS" "[I") (.int 4)) (.int 0)) (by decide +kernel))
    · exact va_eqt (hs (Cond.eq (.elem (.static "FactShares$Facts" "BOUNDS" "[I") (.int 5)) (.int 10)) (by decide +kernel))
    · exact va_eqt (hs (Cond.eq (.elem (.static "FactShares$Facts" "BOUNDS" "[I") (.int 6)) (.int 100)) (by decide +kernel))
    · exact va_eqt (hs (Cond.eq (.elem (.static "FactShares$Facts" "BOUNDS" "[I") (.int 7)) (.int 1000)) (by decide +kernel))
    · exact va_eqt (hs (Cond.eq (.elem (.static "FactShares$Facts" "BOUNDS" "[I") (.int 8)) (.int 1000000)) (by decide +kernel))) hA0
  have hZB := va_Zref (A := fun q => s.heap.size ≤ q) (hts0 _ wx_ls) (hts (.initialized RX2) wd_14) hev hA0
  obtain ⟨g, hgd⟩ : ∃ g : GG, g = ((dC, dI), (cI, cZ, cS, cW), (fun k i => s.heap.size + off k i), s.heap.size, tB) := ⟨_, rfl⟩
  have hgb : gbs g = s.heap.size := by rw [hgd]; rfl
  have hgA : gA g = fun q => s.heap.size ≤ q := by rw [hgd]; rfl
  have hga : ∀ k i, gad g k i = gbs g + off k i := fun k i => by rw [hgd]; rfl
  have hgK : va_K g.1 vwCl (gty g) s := by
    rw [hgd]
    refine ⟨hKc, fun k q hq => ?_⟩
    match k, hq with
    | 0, hq => cases hq; exact ⟨hI1, hI2⟩
    | 1, hq => cases hq; exact ⟨hZ1, hZ2⟩
    | 2, hq => cases hq; exact ⟨hS1, hS2⟩
    | 3, hq => cases hq; exact ⟨hW1, hW2⟩
    | k + 4, hq => simp [gty] at hq
  have hD : ∀ mm, va_D (gA g) (pic g mm) := by
    intro mm
    have hin : ∀ (q : Nat) (x : Nat × va_E), (pic g mm)[q]? = some x → ∃ k i, ids[q]? = some (k, i) ∧ x = (gad g k i, ent g mm k i) := by
      intro q x hx
      simp only [pic, List.getElem?_map] at hx
      cases hb : ids[q]? with
      | none => rw [hb] at hx; cases hx
      | some b =>
        rw [hb] at hx
        cases hx
        exact ⟨b.1, b.2, rfl, rfl⟩
    refine ⟨fun i j x y hx hy hxy => ?_, fun k x hx => ?_⟩
    · obtain ⟨k1, i1, q1, rfl⟩ := hin i x hx
      obtain ⟨k2, i2, q2, rfl⟩ := hin j y hy
      have he : off k1 i1 = off k2 i2 := by
        have h3 : gad g k1 i1 = gad g k2 i2 := hxy
        rw [hga, hga] at h3
        omega
      exact off_inj q1 q2 he
    · obtain ⟨k1, i1, q1, rfl⟩ := hin k x hx
      rw [hgA]
      show s.heap.size ≤ gad g k1 i1
      rw [hga, hgb]
      omega
  have hWd : Wd g s := ⟨hgK, hD, by rw [hgA, hgd]; exact hZB, by rw [hgA, hgd]; exact hTB, va_Nw.of rfl (hts0 _ wx_RX0_63), va_Nw.of rfl (hts0 _ wx_RX0_76), va_Nw.of rfl (hts0 _ wx_RX2_22)⟩
  have hWU : WdU g s := ⟨hgK, ⟨va_AO.of (hts0 _ wx_ao4), va_AO.of (hts0 _ wx_ao6)⟩, va_Nw.of rfl (hts0 _ wx_RX7_9), va_Nw.of rfl (hts0 _ wx_RX7_24), va_Nw.of rfl (hts0 _ wx_RX7_38), va_Nw.of rfl (hts0 _ wx_RX7_56), va_Nw.of rfl (hts0 _ wx_RX6_9)⟩
  have hX2 : va_X b L xs s s.heap ∧ b < s.heap.size ∧ ¬ gA g b := ⟨hX, hbl, by rw [hgA]; exact Nat.not_le.mpr hbl⟩
  have C : CU p s m #[Value.ref b] meth c cL_law RL 4 meth.name ret g := ⟨hx, hb, hml, hown, hts, hWU, hr, hlocks, rfl, by rw [hgb]; exact Nat.le_refl _⟩
  have C2 : Cx p s m #[Value.ref b] meth c cL_law RL 4 ret g := ⟨hx, hb, hml, hown, hts, hWd, hr, hlocks⟩
  obtain ⟨n, hV⟩ := hpure L xs hL
  have key : UU p l e room_1 s m #[Value.ref b] below meth c (lw_Z below #[Value.ref b] s) g 4 0 (fun _ => .inr (0, [])) 0 0 0 [(0, .ref b)] [] := by
    refine ku_new (ci := 7) (fs := [.null, .null, .null, .null, .null, .int 0, .int 0, .int 0, .int 0]) C tyX7 inlX7 tyX7_ok wd_0 wd_1 wd_2 rfl dfX7 (Nat.le_of_ble_eq_true rfl) (Nat.le_of_ble_eq_true rfl) dL_law_0 (fun f1 h1 => ?_)
    refine ku_dup C dL_law_3 rfl ?_
    refine ku_callI (nn := 0) C (u_X7_init (o := 0) (n := 1) (K := fun n' F => n' = 79 ∧ FsOk g F) (pu_X7_init g (by rw [h1]; exact va_up_self _ _ _) (fun F hF => ⟨rfl, hF⟩))) wd_6 wd_7 wd_2 wd_8 rfl uhd_X7_init rfl ⟨Nat.le_of_ble_eq_true rfl, Nat.le_of_ble_eq_true rfl⟩ ⟨Nat.le_of_ble_eq_true rfl, Nat.le_of_ble_eq_true rfl⟩ rfl (Nat.le_of_ble_eq_true rfl) dL_law_4 (fun n' F hE => ?_)
    obtain ⟨rfl, hF⟩ := hE
    refine ku_astore (lv' := [(1, .ref _), (0, .ref _)]) C dL_law_7 rfl (by decide) rfl ?_
    refine ku_new (ci := 8) (fs := [.null, .null, .int 0, .null, .null, .null, .null, .null, .null, .null, .null, .null, .null, .null, .null, .null, .null, .null, .int 0, .int 0, .null, .null, .null, .int 0, .int 0, .int 0, .int 0, .int 0, .int 0, .int 0, .int 0, .int 0, .int 0, .int 0]) C tyX8 inlX8 tyX8_ok wd_3 wd_4 wd_5 rfl dfX8 (Nat.le_of_ble_eq_true rfl) (Nat.le_of_ble_eq_true rfl) dL_law_8 (fun f2 h2 => ?_)
    refine ku_dup C dL_law_11 rfl ?_
    refine ku_callI (nn := 0) C (u_X8_init (o := 79) (n := 80) (K := fun n' F' => n' = 100 ∧ FsOk g F' ∧ MoOk g F' 79 80) (pu_X8_init g (by omega) (by rw [h2]; exact va_up_self _ _ _) (fun F' hF' hk => ⟨rfl, hF.kept (fun a ha => by rw [hk a (by omega) (by omega), h2, va_up_ne _ _ (by omega)]), hF'⟩))) wd_115 wd_116 wd_5 wd_117 rfl uhd_X8_init rfl ⟨Nat.le_of_ble_eq_true rfl, Nat.le_of_ble_eq_true rfl⟩ ⟨Nat.le_of_ble_eq_true rfl, Nat.le_of_ble_eq_true rfl⟩ rfl (Nat.le_of_ble_eq_true rfl) dL_law_12 (fun n' F' hE => ?_)
    obtain ⟨rfl, hF1, hF2⟩ := hE
    refine ku_astore (lv' := [(2, .ref _), (1, .ref _), (0, .ref _)]) C dL_law_15 rfl (by decide) rfl ?_
    refine ku_iconst (v := 0) C dL_law_16 (by decide) ?_
    refine ku_istore_n (lv' := [(3, .int _), (2, .ref _), (1, .ref _), (0, .ref _)]) C dL_law_17 rfl (by decide) rfl ?_
    intro H locs ls hP hS hl
    have e0 : gad g 0 0 = gbs g + 0 := hga 0 0
    have e22 : gad g 22 0 = gbs g + 79 := hga 22 0
    have hgo := w_L_law_18 (l := l) (e := e) (below := below) (cells := 100) (slots := 1414) C2 hX2 (show g.2.2.2.1 = s.heap.size from hgb) ⟨Nat.le_of_ble_eq_true rfl, Nat.le_of_ble_eq_true rfl⟩ n hV H locs ls (made_pic hga hF1 hF2 hP.2) hS
    rw [e0, e22] at hgo
    exact hgo (lv_sub hl [3, 2, 1, 0] rfl)
  have hl := lv_entry ([.ref b]) (n := 4) (Nat.le_of_ble_eq_true rfl)
  rw [lg_entry_eq]
  exact key s.heap [] _ ⟨by rw [hgb]; rfl, fun k q h => by simp [picN] at h⟩ va_S.rf hl
