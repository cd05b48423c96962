theorem vp_lt {x : Int32} {n : Nat} (h : vp_in x n) : x.toNatClampNeg < n := Nat.not_le.mp fun q => h (Or.inr q)
theorem gi_all {ws : List Cond} (h : ∀ w ∈ ws, w ∈ wsL_law) : GoodIn wsL_law ws := fun w hw => ⟨h w hw, good_of_word (List.all_eq_true.mp wd_good w (h w hw))⟩
abbrev Ei (K : Int32 → MW → Prop) : Option Value → MW → Prop := fun r m' => ∃ v : Int32, r = some (.int v) ∧ K v m'
abbrev Ev (K : MW → Prop) : Option Value → MW → Prop := fun r m' => r = none ∧ K m'
abbrev Er (g : GG) (k : Nat) (K : Option Nat → MW → Prop) : Option Value → MW → Prop := fun r m' => ∃ o : Option Nat, r = some (va_rf (o.map (gad g k))) ∧ K o m'
section TC
variable {p : Program} {l : Launch} {e : Env} {R : Room} {s : State} {mi : MethodId} {args : Array Value} {below : List Frame} {meth : Method} {c : Code} {cells slots : Nat} {Q : State → Prop} {g : GG} {nL : Nat} {m : MW} {pc : Nat} {lv : List (Nat × Value)} {rest st : List Value} {cc : ByteArray} {own : String} {ret : Option FieldType}
theorem run_T {H : Heap} {locs : List Loc} {ls : Array Slot} {st0 : List Value} {E : Option Value → MW → Prop} {a : Array Value} (hr : va_Run p l e R s mi args below meth c H locs cells slots 0 0 (F0 mi pc ls st0) rest (QE g E a) (gA g)) (hS : va_S (gA g) s.heap H locs)
    (kk : ∀ (r : Option Value) (m' : MW) (H1 : Heap) (locs1 : List Loc), E r m' → va_P g.1 vwCl (pic g m') H1 → va_S (gA g) s.heap H1 locs1 → W p l e R s mi args below meth c H1 locs1 cells slots Q (F0 mi (pc + 3) ls (r.toList ++ rest))) : W p l e R s mi args below meth c H locs cells slots Q (F0 mi pc ls st0) := by
  intro T hT X
  obtain ⟨v, st₀, t, T', L, h0, X', hL, e1, e2, ⟨⟨r, m', hv, hE, hP⟩, hz, hk⟩, st⟩ := hr T hT X
  cases hv
  rw [h0] at hz hk
  obtain ⟨t2, a1, b1⟩ := kk v m' T'.heap (locs ++ L) hE (by rw [e1]; exact hP)
    ⟨Nat.le_trans hS.1 (by rw [e1]; exact hz), fun q h1 h2 => by rw [e1, hk q (Nat.lt_of_lt_of_le h1 hS.1) h2]; exact hS.2.1 q h1 h2, fun q hq => by
      rcases List.mem_append.mp hq with h | h
      · exact hS.2.2 q h
      · exact hL q h⟩ T' rfl X'
  exact ⟨t2, st t2 a1, b1⟩
theorem kt_callV {E : Option Value → MW → Prop} (C : Cx p s mi args meth c cc own nL ret g) {y : MethodName} {bytes : ByteArray} {maxL fr lo k i ci N index n : Nat} {ret' : Option FieldType} {Cn : String} {Tb : u_T} {fs : List Value} {As : List Value}
    (hC : Ct l y bytes maxL ret' fr lo (.ref (gad g k i) :: As) g m E) (hi : i < cnt k) (he : ent g m k i = .inr (ci, fs)) (hc : vwCl[ci]? = some (Cn, Tb, N))
    (w1 : Cond.methodLink own index y ∈ wsL_law) (w2 : Cond.instanceMethod y ∈ wsL_law) (w3 : Cond.selects Cn y y ∈ wsL_law) (w4 : Cond.initialized Cn ∈ wsL_law) (w5 : Cond.code y bytes maxL ret' ∈ wsL_law)
    (hd : y.cls = Cn ∧ y.cls ≠ "java/lang/invoke/MethodHandle" ∧ y.cls ≠ "java/lang/invoke/VarHandle" ∧ (parseMethodDescriptor y.desc).map (fun d => d.parameters.length) = some n) (hn : As.length = n)
    (hR : fr + 1 ≤ R.frames ∧ 8 + (maxL + 11) + lo ≤ R.locals) (hrc : cells ≤ R.cells ∧ slots ≤ R.slots) (hst : st = As.reverse ++ .ref (gad g k i) :: rest) (hW : (rest.map fun v => v.category).sum ≤ 8) (hdg : decode cc pc = .ok (.invokevirtual index, 3))
    (kk : ∀ (r : Option Value) (m' : MW), E r m' → TT p l e R s mi args below meth c cells slots Q g nL m' (pc + 3) lv (r.toList ++ rest)) : TT p l e R s mi args below meth c cells slots Q g nL m pc lv st := fun H locs ls hP hS hl => by
  obtain ⟨q, hq⟩ := ids_pos hi
  refine run_T (rest := rest) (va_runV (As := As) (rest := rest) ⟨C.1, C.2.1, C.2.2.1, C.2.2.2.1, C.2.2.2.2.1⟩ hC (cwV n C.2.2.2.2.1 (gi_all (fun w hw => ?_)) rfl rfl rfl hd hR) ⟨World.blind, va_recv (D := g.1) (cl := vwCl) (ws := pic g m) C.2.2.2.2.2.1.1 hP hc ((pic_at g m hq).trans (by rw [he])), fun U hU hW => ⟨rfl, by rw [hU]; exact hP, Wd.warm hS hU hW C.2.2.2.2.2.1⟩⟩ rfl hn hl.1 hst (lv_room hW) hdg hrc) hS (fun r m' H1 locs1 hE hP1 hS1 => kk r m' hE H1 locs1 ls hP1 hS1 hl)
  simp only [wsV, List.mem_append, List.mem_cons, List.not_mem_nil, or_false] at hw
  rcases hw with (h | h | h | h) | h | h
  · exact h ▸ w1
  · exact h ▸ w2
  · exact h ▸ w3
  · exact h ▸ w4
  · exact h ▸ w5
  · exact h
theorem kt_callS {E : Option Value → MW → Prop} (C : Cx p s mi args meth c cc own nL ret g) {y : MethodName} {bytes : ByteArray} {maxL fr lo index n : Nat} {ret' : Option FieldType} {As : List Value}
    (hC : Ct l y bytes maxL ret' fr lo As g m E)
    (w1 : Cond.methodLink own index y ∈ wsL_law) (w2 : Cond.static y ∈ wsL_law) (w4 : Cond.initialized own ∈ wsL_law) (w5 : Cond.code y bytes maxL ret' ∈ wsL_law)
    (hd : y.cls = own ∧ y.cls ≠ "java/lang/invoke/MethodHandle" ∧ y.cls ≠ "java/lang/invoke/VarHandle" ∧ (parseMethodDescriptor y.desc).map (fun d => d.parameters.length) = some n) (hn : As.length = n)
    (hR : fr + 1 ≤ R.frames ∧ 8 + (maxL + 11) + lo ≤ R.locals) (hrc : cells ≤ R.cells ∧ slots ≤ R.slots) (hst : st = As.reverse ++ rest) (hW : (rest.map fun v => v.category).sum ≤ 8) (hdg : decode cc pc = .ok (.invokestatic index, 3))
    (kk : ∀ (r : Option Value) (m' : MW), E r m' → TT p l e R s mi args below meth c cells slots Q g nL m' (pc + 3) lv (r.toList ++ rest)) : TT p l e R s mi args below meth c cells slots Q g nL m pc lv st := fun H locs ls hP hS hl => by
  refine run_T (rest := rest) (va_runS (As := As) (rest := rest) ⟨C.1, C.2.1, C.2.2.1, C.2.2.2.1, C.2.2.2.2.1⟩ hC (cwS n C.2.2.2.2.1 (gi_all (fun w hw => ?_)) rfl rfl rfl hd hR) ⟨World.blind, fun U hU hW => ⟨rfl, by rw [hU]; exact hP, Wd.warm hS hU hW C.2.2.2.2.2.1⟩⟩ rfl hn hl.1 hst (lv_room hW) hdg hrc) hS (fun r m' H1 locs1 hE hP1 hS1 => kk r m' hE H1 locs1 ls hP1 hS1 hl)
  simp only [wsS, List.mem_append, List.mem_cons, List.not_mem_nil, or_false] at hw
  rcases hw with (h | h | h) | h | h
  · exact h ▸ w1
  · exact h ▸ w2
  · exact h ▸ w4
  · exact h ▸ w5
  · exact h
theorem kt_callN {E : Option Value → MW → Prop} (C : Cx p s mi args meth c cc own nL ret g) {y : MethodName} {host : String} {bytes : ByteArray} {maxL fr lo index n : Nat} {ret' : Option FieldType} {As : List Value}
    (hC : Ct l y bytes maxL ret' fr lo As g m E)
    (w1 : va_Nw (.methodLinkNest own index y host) s) (w2 : Cond.static y ∈ wsL_law) (w4 : Cond.initialized y.cls ∈ wsL_law) (w5 : Cond.code y bytes maxL ret' ∈ wsL_law)
    (hd : y.cls ≠ "java/lang/invoke/MethodHandle" ∧ y.cls ≠ "java/lang/invoke/VarHandle" ∧ (parseMethodDescriptor y.desc).map (fun d => d.parameters.length) = some n) (hn : As.length = n)
    (hR : fr + 1 ≤ R.frames ∧ 8 + (maxL + 11) + lo ≤ R.locals) (hrc : cells ≤ R.cells ∧ slots ≤ R.slots) (hst : st = As.reverse ++ rest) (hW : (rest.map fun v => v.category).sum ≤ 8) (hdg : decode cc pc = .ok (.invokestatic index, 3))
    (kk : ∀ (r : Option Value) (m' : MW), E r m' → TT p l e R s mi args below meth c cells slots Q g nL m' (pc + 3) lv (r.toList ++ rest)) : TT p l e R s mi args below meth c cells slots Q g nL m pc lv st := fun H locs ls hP hS hl => by
  refine run_T (rest := rest) (va_runSN (As := As) (rest := rest) ⟨C.1, C.2.1, C.2.2.1, C.2.2.2.1, C.2.2.2.2.1⟩ hC ⟨va_cnB n C.2.2.2.2.1 (gi_all (fun w hw => ?_)) rfl rfl rfl w1 (C.2.2.2.2.1 _ w4) hd hR, C.2.2.2.2.1 _ w2, trivial⟩ ⟨World.blind, fun U hU hW => ⟨rfl, by rw [hU]; exact hP, Wd.warm hS hU hW C.2.2.2.2.2.1⟩⟩ rfl hn hl.1 hst (lv_room hW) hdg hrc) hS (fun r m' H1 locs1 hE hP1 hS1 => kk r m' hE H1 locs1 ls hP1 hS1 hl)
  rcases List.mem_cons.mp hw with h | h
  · exact h ▸ w5
  · exact h
theorem kt_refo {k : Nat} {o : Option Nat} (hn : o = none → TT p l e R s mi args below meth c cells slots Q g nL m pc lv (.null :: rest)) (hs : ∀ a, o = some a → TT p l e R s mi args below meth c cells slots Q g nL m pc lv (.ref (gad g k a) :: rest)) : TT p l e R s mi args below meth c cells slots Q g nL m pc lv (va_rf (o.map (gad g k)) :: rest) := by
  cases o with
  | none => exact hn rfl
  | some a => exact hs a rfl
theorem kt_refs {k : Nat} {o : Option Nat} {a : Nat} (h : o = some a) (hs : TT p l e R s mi args below meth c cells slots Q g nL m pc lv (.ref (gad g k a) :: rest)) : TT p l e R s mi args below meth c cells slots Q g nL m pc lv (va_rf (o.map (gad g k)) :: rest) := by
  rw [h]; exact hs
theorem kt_refn {k : Nat} {o : Option Nat} (h : o = none) (hs : TT p l e R s mi args below meth c cells slots Q g nL m pc lv (.null :: rest)) : TT p l e R s mi args below meth c cells slots Q g nL m pc lv (va_rf (o.map (gad g k)) :: rest) := by
  rw [h]; exact hs
theorem kt_pick {lv' : List (Nat × Value)} (ks : List Nat) (hl' : lv_pick lv ks = lv') (k : TT p l e R s mi args below meth c cells slots Q g nL m pc lv' st) : TT p l e R s mi args below meth c cells slots Q g nL m pc lv st := fun H locs ls hP hS hl => k H locs ls hP hS (lv_sub hl ks hl')
theorem kt_bret {E : Option Value → MW → Prop} (C : Cx p s mi args meth c cc own nL (some .boolean) g) {v : Int32} (hn : v = 0 ∨ v = 1) (hE : E (some (.int v)) m) (hdg : decode cc pc = .ok (.ireturn, 1)) : TT p l e R s mi args below meth c 0 0 (MQ below (QE g E) args s 0 0 (gA g)) g nL m pc lv [.int v] := kt_zret C (by rcases hn with rfl | rfl <;> rfl) hE hdg
theorem kt_rret {k : Nat} {K : Option Nat → MW → Prop} {n : String} (C : Cx p s mi args meth c cc own nL (some (.object n)) g) {v : Value} (o : Option Nat) (hv : v = va_rf (o.map (gad g k))) (hE : K o m) (hdg : decode cc pc = .ok (.areturn, 1)) : TT p l e R s mi args below meth c 0 0 (MQ below (QE g (Er g k K)) args s 0 0 (gA g)) g nL m pc lv [v] := kt_aret C (by rw [hv]; exact va_rf_or _) ⟨o, by rw [hv], hE⟩ hdg
theorem kt_sti {v : Value} (k : TT p l e R s mi args below meth c cells slots Q g nL m pc lv (v :: rest)) : TT p l e R s mi args below meth c cells slots Q g nL m pc lv ((some v).toList ++ rest) := k
theorem kt_stv (k : TT p l e R s mi args below meth c cells slots Q g nL m pc lv rest) : TT p l e R s mi args below meth c cells slots Q g nL m pc lv ((none : Option Value).toList ++ rest) := k
end TC
theorem ep_16_2 (g : GG) (m : MW) (i : Nat) (v : Int32) : ent g ((up3 m.1.1 16 i 2 v, m.1.2), m.2) 16 i = .inr (0, List.set [.ref (gad g 17 i), .ref (gad g 18 i), .int (m.1.1 16 i 2), .ref (gad g 19 i), .ref (gad g 20 i), .ref (gad g 21 i)] 2 (.int v)) := by simp [ent, up3, List.set]
theorem ep_8_4 (g : GG) (m : MW) (i : Nat) (v : Int32) : ent g ((up3 m.1.1 8 i 4 v, m.1.2), m.2) 8 i = .inr (1, List.set [.ref (gad g 9 0), .int (m.1.1 8 i 1), .int (m.1.1 8 i 2), .int (m.1.1 8 i 3), .int (m.1.1 8 i 4)] 4 (.int v)) := by simp [ent, up3, List.set]
theorem ep_8_1 (g : GG) (m : MW) (i : Nat) (v : Int32) : ent g ((up3 m.1.1 8 i 1 v, m.1.2), m.2) 8 i = .inr (1, List.set [.ref (gad g 9 0), .int (m.1.1 8 i 1), .int (m.1.1 8 i 2), .int (m.1.1 8 i 3), .int (m.1.1 8 i 4)] 1 (.int v)) := by simp [ent, up3, List.set]
theorem ep_8_3 (g : GG) (m : MW) (i : Nat) (v : Int32) : ent g ((up3 m.1.1 8 i 3 v, m.1.2), m.2) 8 i = .inr (1, List.set [.ref (gad g 9 0), .int (m.1.1 8 i 1), .int (m.1.1 8 i 2), .int (m.1.1 8 i 3), .int (m.1.1 8 i 4)] 3 (.int v)) := by simp [ent, up3, List.set]
theorem ep_8_2 (g : GG) (m : MW) (i : Nat) (v : Int32) : ent g ((up3 m.1.1 8 i 2 v, m.1.2), m.2) 8 i = .inr (1, List.set [.ref (gad g 9 0), .int (m.1.1 8 i 1), .int (m.1.1 8 i 2), .int (m.1.1 8 i 3), .int (m.1.1 8 i 4)] 2 (.int v)) := by simp [ent, up3, List.set]
theorem ep_6_2 (g : GG) (m : MW) (i : Nat) (v : Int32) : ent g ((up3 m.1.1 6 i 2 v, m.1.2), m.2) 6 i = .inr (3, List.set [.ref (gad g 7 0), .int (m.1.1 6 i 1), .int (m.1.1 6 i 2)] 2 (.int v)) := by simp [ent, up3, List.set]
theorem ep_6_1 (g : GG) (m : MW) (i : Nat) (v : Int32) : ent g ((up3 m.1.1 6 i 1 v, m.1.2), m.2) 6 i = .inr (3, List.set [.ref (gad g 7 0), .int (m.1.1 6 i 1), .int (m.1.1 6 i 2)] 1 (.int v)) := by simp [ent, up3, List.set]
theorem ep_11_4 (g : GG) (m : MW) (i : Nat) (v : Int32) : ent g ((up3 m.1.1 11 i 4 v, m.1.2), m.2) 11 i = .inr (4, List.set [.ref (gad g 12 i), .ref (gad g 13 i), .ref (gad g 14 i), .int (m.1.1 11 i 3), .int (m.1.1 11 i 4), .int (m.1.1 11 i 5), .int (m.1.1 11 i 6), .int (m.1.1 11 i 7), .int (m.1.1 11 i 8)] 4 (.int v)) := by simp [ent, up3, List.set]
theorem ep_11_3 (g : GG) (m : MW) (i : Nat) (v : Int32) : ent g ((up3 m.1.1 11 i 3 v, m.1.2), m.2) 11 i = .inr (4, List.set [.ref (gad g 12 i), .ref (gad g 13 i), .ref (gad g 14 i), .int (m.1.1 11 i 3), .int (m.1.1 11 i 4), .int (m.1.1 11 i 5), .int (m.1.1 11 i 6), .int (m.1.1 11 i 7), .int (m.1.1 11 i 8)] 3 (.int v)) := by simp [ent, up3, List.set]
theorem ep_11_8 (g : GG) (m : MW) (i : Nat) (v : Int32) : ent g ((up3 m.1.1 11 i 8 v, m.1.2), m.2) 11 i = .inr (4, List.set [.ref (gad g 12 i), .ref (gad g 13 i), .ref (gad g 14 i), .int (m.1.1 11 i 3), .int (m.1.1 11 i 4), .int (m.1.1 11 i 5), .int (m.1.1 11 i 6), .int (m.1.1 11 i 7), .int (m.1.1 11 i 8)] 8 (.int v)) := by simp [ent, up3, List.set]
theorem ep_11_7 (g : GG) (m : MW) (i : Nat) (v : Int32) : ent g ((up3 m.1.1 11 i 7 v, m.1.2), m.2) 11 i = .inr (4, List.set [.ref (gad g 12 i), .ref (gad g 13 i), .ref (gad g 14 i), .int (m.1.1 11 i 3), .int (m.1.1 11 i 4), .int (m.1.1 11 i 5), .int (m.1.1 11 i 6), .int (m.1.1 11 i 7), .int (m.1.1 11 i 8)] 7 (.int v)) := by simp [ent, up3, List.set]
theorem ep_11_5 (g : GG) (m : MW) (i : Nat) (v : Int32) : ent g ((up3 m.1.1 11 i 5 v, m.1.2), m.2) 11 i = .inr (4, List.set [.ref (gad g 12 i), .ref (gad g 13 i), .ref (gad g 14 i), .int (m.1.1 11 i 3), .int (m.1.1 11 i 4), .int (m.1.1 11 i 5), .int (m.1.1 11 i 6), .int (m.1.1 11 i 7), .int (m.1.1 11 i 8)] 5 (.int v)) := by simp [ent, up3, List.set]
theorem ep_11_6 (g : GG) (m : MW) (i : Nat) (v : Int32) : ent g ((up3 m.1.1 11 i 6 v, m.1.2), m.2) 11 i = .inr (4, List.set [.ref (gad g 12 i), .ref (gad g 13 i), .ref (gad g 14 i), .int (m.1.1 11 i 3), .int (m.1.1 11 i 4), .int (m.1.1 11 i 5), .int (m.1.1 11 i 6), .int (m.1.1 11 i 7), .int (m.1.1 11 i 8)] 6 (.int v)) := by simp [ent, up3, List.set]
theorem ep_10_3 (g : GG) (m : MW) (i : Nat) (v : Int32) : ent g ((up3 m.1.1 10 i 3 v, m.1.2), m.2) 10 i = .inr (5, List.set [.int (m.1.1 10 i 0), .int (m.1.1 10 i 1), .int (m.1.1 10 i 2), .int (m.1.1 10 i 3), .int (m.1.1 10 i 4), .int (m.1.1 10 i 5)] 3 (.int v)) := by simp [ent, up3, List.set]
theorem ep_10_5 (g : GG) (m : MW) (i : Nat) (v : Int32) : ent g ((up3 m.1.1 10 i 5 v, m.1.2), m.2) 10 i = .inr (5, List.set [.int (m.1.1 10 i 0), .int (m.1.1 10 i 1), .int (m.1.1 10 i 2), .int (m.1.1 10 i 3), .int (m.1.1 10 i 4), .int (m.1.1 10 i 5)] 5 (.int v)) := by simp [ent, up3, List.set]
theorem ep_10_2 (g : GG) (m : MW) (i : Nat) (v : Int32) : ent g ((up3 m.1.1 10 i 2 v, m.1.2), m.2) 10 i = .inr (5, List.set [.int (m.1.1 10 i 0), .int (m.1.1 10 i 1), .int (m.1.1 10 i 2), .int (m.1.1 10 i 3), .int (m.1.1 10 i 4), .int (m.1.1 10 i 5)] 2 (.int v)) := by simp [ent, up3, List.set]
theorem ep_10_0 (g : GG) (m : MW) (i : Nat) (v : Int32) : ent g ((up3 m.1.1 10 i 0 v, m.1.2), m.2) 10 i = .inr (5, List.set [.int (m.1.1 10 i 0), .int (m.1.1 10 i 1), .int (m.1.1 10 i 2), .int (m.1.1 10 i 3), .int (m.1.1 10 i 4), .int (m.1.1 10 i 5)] 0 (.int v)) := by simp [ent, up3, List.set]
theorem ep_10_1 (g : GG) (m : MW) (i : Nat) (v : Int32) : ent g ((up3 m.1.1 10 i 1 v, m.1.2), m.2) 10 i = .inr (5, List.set [.int (m.1.1 10 i 0), .int (m.1.1 10 i 1), .int (m.1.1 10 i 2), .int (m.1.1 10 i 3), .int (m.1.1 10 i 4), .int (m.1.1 10 i 5)] 1 (.int v)) := by simp [ent, up3, List.set]
theorem ep_10_4 (g : GG) (m : MW) (i : Nat) (v : Int32) : ent g ((up3 m.1.1 10 i 4 v, m.1.2), m.2) 10 i = .inr (5, List.set [.int (m.1.1 10 i 0), .int (m.1.1 10 i 1), .int (m.1.1 10 i 2), .int (m.1.1 10 i 3), .int (m.1.1 10 i 4), .int (m.1.1 10 i 5)] 4 (.int v)) := by simp [ent, up3, List.set]
theorem ep_15_2 (g : GG) (m : MW) (i : Nat) (v : Int32) : ent g ((up3 m.1.1 15 i 2 v, m.1.2), m.2) 15 i = .inr (6, List.set [.int (nI i), .ref (gad g 16 i), .int (m.1.1 15 i 2), .int (m.1.1 15 i 3), va_rf ((m.1.2 0 i).map (gad g 11)), .int (m.1.1 15 i 5)] 2 (.int v)) := by simp [ent, up3, List.set]
theorem ep_15_3 (g : GG) (m : MW) (i : Nat) (v : Int32) : ent g ((up3 m.1.1 15 i 3 v, m.1.2), m.2) 15 i = .inr (6, List.set [.int (nI i), .ref (gad g 16 i), .int (m.1.1 15 i 2), .int (m.1.1 15 i 3), va_rf ((m.1.2 0 i).map (gad g 11)), .int (m.1.1 15 i 5)] 3 (.int v)) := by simp [ent, up3, List.set]
theorem ep_15_5 (g : GG) (m : MW) (i : Nat) (v : Int32) : ent g ((up3 m.1.1 15 i 5 v, m.1.2), m.2) 15 i = .inr (6, List.set [.int (nI i), .ref (gad g 16 i), .int (m.1.1 15 i 2), .int (m.1.1 15 i 3), va_rf ((m.1.2 0 i).map (gad g 11)), .int (m.1.1 15 i 5)] 5 (.int v)) := by simp [ent, up3, List.set]
theorem ep_0_8 (g : GG) (m : MW) (i : Nat) (v : Int32) : ent g ((up3 m.1.1 0 i 8 v, m.1.2), m.2) 0 i = .inr (7, List.set [.ref (gad g 1 0), .ref (gad g 5 0), .ref (gad g 6 0), .ref (gad g 8 0), .ref (gad g 10 0), .int (m.1.1 0 i 5), .int (m.1.1 0 i 6), .int (m.1.1 0 i 7), .int (m.1.1 0 i 8)] 8 (.int v)) := by simp [ent, up3, List.set]
theorem ep_0_5 (g : GG) (m : MW) (i : Nat) (v : Int32) : ent g ((up3 m.1.1 0 i 5 v, m.1.2), m.2) 0 i = .inr (7, List.set [.ref (gad g 1 0), .ref (gad g 5 0), .ref (gad g 6 0), .ref (gad g 8 0), .ref (gad g 10 0), .int (m.1.1 0 i 5), .int (m.1.1 0 i 6), .int (m.1.1 0 i 7), .int (m.1.1 0 i 8)] 5 (.int v)) := by simp [ent, up3, List.set]
theorem ep_0_6 (g : GG) (m : MW) (i : Nat) (v : Int32) : ent g ((up3 m.1.1 0 i 6 v, m.1.2), m.2) 0 i = .inr (7, List.set [.ref (gad g 1 0), .ref (gad g 5 0), .ref (gad g 6 0), .ref (gad g 8 0), .ref (gad g 10 0), .int (m.1.1 0 i 5), .int (m.1.1 0 i 6), .int (m.1.1 0 i 7), .int (m.1.1 0 i 8)] 6 (.int v)) := by simp [ent, up3, List.set]
theorem ep_0_7 (g : GG) (m : MW) (i : Nat) (v : Int32) : ent g ((up3 m.1.1 0 i 7 v, m.1.2), m.2) 0 i = .inr (7, List.set [.ref (gad g 1 0), .ref (gad g 5 0), .ref (gad g 6 0), .ref (gad g 8 0), .ref (gad g 10 0), .int (m.1.1 0 i 5), .int (m.1.1 0 i 6), .int (m.1.1 0 i 7), .int (m.1.1 0 i 8)] 7 (.int v)) := by simp [ent, up3, List.set]
theorem ep2_30 (g : GG) (m : MW) (v : Int32) : ent g (m.1, up2 m.2 22 30 v) 22 0 = .inr (8, List.set [.ref (gad g 30 0), .ref (gad g 31 0), .int (m.2 22 2), .ref (gad g 33 0), .ref (gad g 34 0), .ref (gad g 35 0), .ref (gad g 36 0), .ref (gad g 37 0), .ref (gad g 38 0), .ref (gad g 39 0), .ref (gad g 40 0), .ref (gad g 41 0), .ref (gad g 42 0), .ref (gad g 43 0), .ref (gad g 44 0), .ref (gad g 45 0), .ref (gad g 46 0), .ref (gad g 47 0), .int (m.2 22 18), .int (m.2 22 19), .ref (gad g 50 0), .ref (gad g 51 0), .ref (gad g 52 0), .int (m.2 22 23), .int (m.2 22 24), .int (m.2 22 25), .int (m.2 22 26), .int (m.2 22 27), .int (m.2 22 28), .int (m.2 22 29), .int (m.2 22 30), .int (m.2 22 31), .int (m.2 22 32), .int (m.2 22 33)] 30 (.int v)) := by simp [ent, up2, List.set]
theorem ep2_29 (g : GG) (m : MW) (v : Int32) : ent g (m.1, up2 m.2 22 29 v) 22 0 = .inr (8, List.set [.ref (gad g 30 0), .ref (gad g 31 0), .int (m.2 22 2), .ref (gad g 33 0), .ref (gad g 34 0), .ref (gad g 35 0), .ref (gad g 36 0), .ref (gad g 37 0), .ref (gad g 38 0), .ref (gad g 39 0), .ref (gad g 40 0), .ref (gad g 41 0), .ref (gad g 42 0), .ref (gad g 43 0), .ref (gad g 44 0), .ref (gad g 45 0), .ref (gad g 46 0), .ref (gad g 47 0), .int (m.2 22 18), .int (m.2 22 19), .ref (gad g 50 0), .ref (gad g 51 0), .ref (gad g 52 0), .int (m.2 22 23), .int (m.2 22 24), .int (m.2 22 25), .int (m.2 22 26), .int (m.2 22 27), .int (m.2 22 28), .int (m.2 22 29), .int (m.2 22 30), .int (m.2 22 31), .int (m.2 22 32), .int (m.2 22 33)] 29 (.int v)) := by simp [ent, up2, List.set]
theorem ep2_27 (g : GG) (m : MW) (v : Int32) : ent g (m.1, up2 m.2 22 27 v) 22 0 = .inr (8, List.set [.ref (gad g 30 0), .ref (gad g 31 0), .int (m.2 22 2), .ref (gad g 33 0), .ref (gad g 34 0), .ref (gad g 35 0), .ref (gad g 36 0), .ref (gad g 37 0), .ref (gad g 38 0), .ref (gad g 39 0), .ref (gad g 40 0), .ref (gad g 41 0), .ref (gad g 42 0), .ref (gad g 43 0), .ref (gad g 44 0), .ref (gad g 45 0), .ref (gad g 46 0), .ref (gad g 47 0), .int (m.2 22 18), .int (m.2 22 19), .ref (gad g 50 0), .ref (gad g 51 0), .ref (gad g 52 0), .int (m.2 22 23), .int (m.2 22 24), .int (m.2 22 25), .int (m.2 22 26), .int (m.2 22 27), .int (m.2 22 28), .int (m.2 22 29), .int (m.2 22 30), .int (m.2 22 31), .int (m.2 22 32), .int (m.2 22 33)] 27 (.int v)) := by simp [ent, up2, List.set]
theorem ep2_31 (g : GG) (m : MW) (v : Int32) : ent g (m.1, up2 m.2 22 31 v) 22 0 = .inr (8, List.set [.ref (gad g 30 0), .ref (gad g 31 0), .int (m.2 22 2), .ref (gad g 33 0), .ref (gad g 34 0), .ref (gad g 35 0), .ref (gad g 36 0), .ref (gad g 37 0), .ref (gad g 38 0), .ref (gad g 39 0), .ref (gad g 40 0), .ref (gad g 41 0), .ref (gad g 42 0), .ref (gad g 43 0), .ref (gad g 44 0), .ref (gad g 45 0), .ref (gad g 46 0), .ref (gad g 47 0), .int (m.2 22 18), .int (m.2 22 19), .ref (gad g 50 0), .ref (gad g 51 0), .ref (gad g 52 0), .int (m.2 22 23), .int (m.2 22 24), .int (m.2 22 25), .int (m.2 22 26), .int (m.2 22 27), .int (m.2 22 28), .int (m.2 22 29), .int (m.2 22 30), .int (m.2 22 31), .int (m.2 22 32), .int (m.2 22 33)] 31 (.int v)) := by simp [ent, up2, List.set]
theorem ep2_18 (g : GG) (m : MW) (v : Int32) : ent g (m.1, up2 m.2 22 18 v) 22 0 = .inr (8, List.set [.ref (gad g 30 0), .ref (gad g 31 0), .int (m.2 22 2), .ref (gad g 33 0), .ref (gad g 34 0), .ref (gad g 35 0), .ref (gad g 36 0), .ref (gad g 37 0), .ref (gad g 38 0), .ref (gad g 39 0), .ref (gad g 40 0), .ref (gad g 41 0), .ref (gad g 42 0), .ref (gad g 43 0), .ref (gad g 44 0), .ref (gad g 45 0), .ref (gad g 46 0), .ref (gad g 47 0), .int (m.2 22 18), .int (m.2 22 19), .ref (gad g 50 0), .ref (gad g 51 0), .ref (gad g 52 0), .int (m.2 22 23), .int (m.2 22 24), .int (m.2 22 25), .int (m.2 22 26), .int (m.2 22 27), .int (m.2 22 28), .int (m.2 22 29), .int (m.2 22 30), .int (m.2 22 31), .int (m.2 22 32), .int (m.2 22 33)] 18 (.int v)) := by simp [ent, up2, List.set]
theorem ep2_25 (g : GG) (m : MW) (v : Int32) : ent g (m.1, up2 m.2 22 25 v) 22 0 = .inr (8, List.set [.ref (gad g 30 0), .ref (gad g 31 0), .int (m.2 22 2), .ref (gad g 33 0), .ref (gad g 34 0), .ref (gad g 35 0), .ref (gad g 36 0), .ref (gad g 37 0), .ref (gad g 38 0), .ref (gad g 39 0), .ref (gad g 40 0), .ref (gad g 41 0), .ref (gad g 42 0), .ref (gad g 43 0), .ref (gad g 44 0), .ref (gad g 45 0), .ref (gad g 46 0), .ref (gad g 47 0), .int (m.2 22 18), .int (m.2 22 19), .ref (gad g 50 0), .ref (gad g 51 0), .ref (gad g 52 0), .int (m.2 22 23), .int (m.2 22 24), .int (m.2 22 25), .int (m.2 22 26), .int (m.2 22 27), .int (m.2 22 28), .int (m.2 22 29), .int (m.2 22 30), .int (m.2 22 31), .int (m.2 22 32), .int (m.2 22 33)] 25 (.int v)) := by simp [ent, up2, List.set]
theorem ep2_33 (g : GG) (m : MW) (v : Int32) : ent g (m.1, up2 m.2 22 33 v) 22 0 = .inr (8, List.set [.ref (gad g 30 0), .ref (gad g 31 0), .int (m.2 22 2), .ref (gad g 33 0), .ref (gad g 34 0), .ref (gad g 35 0), .ref (gad g 36 0), .ref (gad g 37 0), .ref (gad g 38 0), .ref (gad g 39 0), .ref (gad g 40 0), .ref (gad g 41 0), .ref (gad g 42 0), .ref (gad g 43 0), .ref (gad g 44 0), .ref (gad g 45 0), .ref (gad g 46 0), .ref (gad g 47 0), .int (m.2 22 18), .int (m.2 22 19), .ref (gad g 50 0), .ref (gad g 51 0), .ref (gad g 52 0), .int (m.2 22 23), .int (m.2 22 24), .int (m.2 22 25), .int (m.2 22 26), .int (m.2 22 27), .int (m.2 22 28), .int (m.2 22 29), .int (m.2 22 30), .int (m.2 22 31), .int (m.2 22 32), .int (m.2 22 33)] 33 (.int v)) := by simp [ent, up2, List.set]
theorem ep2_28 (g : GG) (m : MW) (v : Int32) : ent g (m.1, up2 m.2 22 28 v) 22 0 = .inr (8, List.set [.ref (gad g 30 0), .ref (gad g 31 0), .int (m.2 22 2), .ref (gad g 33 0), .ref (gad g 34 0), .ref (gad g 35 0), .ref (gad g 36 0), .ref (gad g 37 0), .ref (gad g 38 0), .ref (gad g 39 0), .ref (gad g 40 0), .ref (gad g 41 0), .ref (gad g 42 0), .ref (gad g 43 0), .ref (gad g 44 0), .ref (gad g 45 0), .ref (gad g 46 0), .ref (gad g 47 0), .int (m.2 22 18), .int (m.2 22 19), .ref (gad g 50 0), .ref (gad g 51 0), .ref (gad g 52 0), .int (m.2 22 23), .int (m.2 22 24), .int (m.2 22 25), .int (m.2 22 26), .int (m.2 22 27), .int (m.2 22 28), .int (m.2 22 29), .int (m.2 22 30), .int (m.2 22 31), .int (m.2 22 32), .int (m.2 22 33)] 28 (.int v)) := by simp [ent, up2, List.set]
theorem ep2_2 (g : GG) (m : MW) (v : Int32) : ent g (m.1, up2 m.2 22 2 v) 22 0 = .inr (8, List.set [.ref (gad g 30 0), .ref (gad g 31 0), .int (m.2 22 2), .ref (gad g 33 0), .ref (gad g 34 0), .ref (gad g 35 0), .ref (gad g 36 0), .ref (gad g 37 0), .ref (gad g 38 0), .ref (gad g 39 0), .ref (gad g 40 0), .ref (gad g 41 0), .ref (gad g 42 0), .ref (gad g 43 0), .ref (gad g 44 0), .ref (gad g 45 0), .ref (gad g 46 0), .ref (gad g 47 0), .int (m.2 22 18), .int (m.2 22 19), .ref (gad g 50 0), .ref (gad g 51 0), .ref (gad g 52 0), .int (m.2 22 23), .int (m.2 22 24), .int (m.2 22 25), .int (m.2 22 26), .int (m.2 22 27), .int (m.2 22 28), .int (m.2 22 29), .int (m.2 22 30), .int (m.2 22 31), .int (m.2 22 32), .int (m.2 22 33)] 2 (.int v)) := by simp [ent, up2, List.set]
theorem ep2_19 (g : GG) (m : MW) (v : Int32) : ent g (m.1, up2 m.2 22 19 v) 22 0 = .inr (8, List.set [.ref (gad g 30 0), .ref (gad g 31 0), .int (m.2 22 2), .ref (gad g 33 0), .ref (gad g 34 0), .ref (gad g 35 0), .ref (gad g 36 0), .ref (gad g 37 0), .ref (gad g 38 0), .ref (gad g 39 0), .ref (gad g 40 0), .ref (gad g 41 0), .ref (gad g 42 0), .ref (gad g 43 0), .ref (gad g 44 0), .ref (gad g 45 0), .ref (gad g 46 0), .ref (gad g 47 0), .int (m.2 22 18), .int (m.2 22 19), .ref (gad g 50 0), .ref (gad g 51 0), .ref (gad g 52 0), .int (m.2 22 23), .int (m.2 22 24), .int (m.2 22 25), .int (m.2 22 26), .int (m.2 22 27), .int (m.2 22 28), .int (m.2 22 29), .int (m.2 22 30), .int (m.2 22 31), .int (m.2 22 32), .int (m.2 22 33)] 19 (.int v)) := by simp [ent, up2, List.set]
theorem ep2_32 (g : GG) (m : MW) (v : Int32) : ent g (m.1, up2 m.2 22 32 v) 22 0 = .inr (8, List.set [.ref (gad g 30 0), .ref (gad g 31 0), .int (m.2 22 2), .ref (gad g 33 0), .ref (gad g 34 0), .ref (gad g 35 0), .ref (gad g 36 0), .ref (gad g 37 0), .ref (gad g 38 0), .ref (gad g 39 0), .ref (gad g 40 0), .ref (gad g 41 0), .ref (gad g 42 0), .ref (gad g 43 0), .ref (gad g 44 0), .ref (gad g 45 0), .ref (gad g 46 0), .ref (gad g 47 0), .int (m.2 22 18), .int (m.2 22 19), .ref (gad g 50 0), .ref (gad g 51 0), .ref (gad g 52 0), .int (m.2 22 23), .int (m.2 22 24), .int (m.2 22 25), .int (m.2 22 26), .int (m.2 22 27), .int (m.2 22 28), .int (m.2 22 29), .int (m.2 22 30), .int (m.2 22 31), .int (m.2 22 32), .int (m.2 22 33)] 32 (.int v)) := by simp [ent, up2, List.set]
theorem ep2_23 (g : GG) (m : MW) (v : Int32) : ent g (m.1, up2 m.2 22 23 v) 22 0 = .inr (8, List.set [.ref (gad g 30 0), .ref (gad g 31 0), .int (m.2 22 2), .ref (gad g 33 0), .ref (gad g 34 0), .ref (gad g 35 0), .ref (gad g 36 0), .ref (gad g 37 0), .ref (gad g 38 0), .ref (gad g 39 0), .ref (gad g 40 0), .ref (gad g 41 0), .ref (gad g 42 0), .ref (gad g 43 0), .ref (gad g 44 0), .ref (gad g 45 0), .ref (gad g 46 0), .ref (gad g 47 0), .int (m.2 22 18), .int (m.2 22 19), .ref (gad g 50 0), .ref (gad g 51 0), .ref (gad g 52 0), .int (m.2 22 23), .int (m.2 22 24), .int (m.2 22 25), .int (m.2 22 26), .int (m.2 22 27), .int (m.2 22 28), .int (m.2 22 29), .int (m.2 22 30), .int (m.2 22 31), .int (m.2 22 32), .int (m.2 22 33)] 23 (.int v)) := by simp [ent, up2, List.set]
theorem ep2_26 (g : GG) (m : MW) (v : Int32) : ent g (m.1, up2 m.2 22 26 v) 22 0 = .inr (8, List.set [.ref (gad g 30 0), .ref (gad g 31 0), .int (m.2 22 2), .ref (gad g 33 0), .ref (gad g 34 0), .ref (gad g 35 0), .ref (gad g 36 0), .ref (gad g 37 0), .ref (gad g 38 0), .ref (gad g 39 0), .ref (gad g 40 0), .ref (gad g 41 0), .ref (gad g 42 0), .ref (gad g 43 0), .ref (gad g 44 0), .ref (gad g 45 0), .ref (gad g 46 0), .ref (gad g 47 0), .int (m.2 22 18), .int (m.2 22 19), .ref (gad g 50 0), .ref (gad g 51 0), .ref (gad g 52 0), .int (m.2 22 23), .int (m.2 22 24), .int (m.2 22 25), .int (m.2 22 26), .int (m.2 22 27), .int (m.2 22 28), .int (m.2 22 29), .int (m.2 22 30), .int (m.2 22 31), .int (m.2 22 32), .int (m.2 22 33)] 26 (.int v)) := by simp [ent, up2, List.set]
theorem ep2_24 (g : GG) (m : MW) (v : Int32) : ent g (m.1, up2 m.2 22 24 v) 22 0 = .inr (8, List.set [.ref (gad g 30 0), .ref (gad g 31 0), .int (m.2 22 2), .ref (gad g 33 0), .ref (gad g 34 0), .ref (gad g 35 0), .ref (gad g 36 0), .ref (gad g 37 0), .ref (gad g 38 0), .ref (gad g 39 0), .ref (gad g 40 0), .ref (gad g 41 0), .ref (gad g 42 0), .ref (gad g 43 0), .ref (gad g 44 0), .ref (gad g 45 0), .ref (gad g 46 0), .ref (gad g 47 0), .int (m.2 22 18), .int (m.2 22 19), .ref (gad g 50 0), .ref (gad g 51 0), .ref (gad g 52 0), .int (m.2 22 23), .int (m.2 22 24), .int (m.2 22 25), .int (m.2 22 26), .int (m.2 22 27), .int (m.2 22 28), .int (m.2 22 29), .int (m.2 22 30), .int (m.2 22 31), .int (m.2 22 32), .int (m.2 22 33)] 24 (.int v)) := by simp [ent, up2, List.set]
theorem ea_2 (g : GG) (m : MW) (i j : Nat) (v : Int32) : ent g ((up3 m.1.1 2 i j v, m.1.2), m.2) 2 i = aI (gcZ g) 10 (upd (m.1.1 2 i) j v) := by simp only [ent, up3_eq]
theorem ea_3 (g : GG) (m : MW) (i j : Nat) (v : Int32) : ent g ((up3 m.1.1 3 i j v, m.1.2), m.2) 3 i = aI (gcI g) 10 (upd (m.1.1 3 i) j v) := by simp only [ent, up3_eq]
theorem ea_4 (g : GG) (m : MW) (i j : Nat) (v : Int32) : ent g ((up3 m.1.1 4 i j v, m.1.2), m.2) 4 i = aI (gcI g) 10 (upd (m.1.1 4 i) j v) := by simp only [ent, up3_eq]
theorem ea_12 (g : GG) (m : MW) (i j : Nat) (v : Int32) : ent g ((up3 m.1.1 12 i j v, m.1.2), m.2) 12 i = aI (gcI g) 8 (upd (m.1.1 12 i) j v) := by simp only [ent, up3_eq]
theorem ea_13 (g : GG) (m : MW) (i j : Nat) (v : Int32) : ent g ((up3 m.1.1 13 i j v, m.1.2), m.2) 13 i = aI (gcI g) 8 (upd (m.1.1 13 i) j v) := by simp only [ent, up3_eq]
theorem ea_14 (g : GG) (m : MW) (i j : Nat) (v : Int32) : ent g ((up3 m.1.1 14 i j v, m.1.2), m.2) 14 i = aI (gcI g) 8 (upd (m.1.1 14 i) j v) := by simp only [ent, up3_eq]
theorem ea_17 (g : GG) (m : MW) (i j : Nat) (v : Int32) : ent g ((up3 m.1.1 17 i j v, m.1.2), m.2) 17 i = aI (gcI g) 3 (upd (m.1.1 17 i) j v) := by simp only [ent, up3_eq]
theorem ea_18 (g : GG) (m : MW) (i j : Nat) (v : Int32) : ent g ((up3 m.1.1 18 i j v, m.1.2), m.2) 18 i = aI (gcI g) 3 (upd (m.1.1 18 i) j v) := by simp only [ent, up3_eq]
theorem ea_19 (g : GG) (m : MW) (i j : Nat) (v : Int32) : ent g ((up3 m.1.1 19 i j v, m.1.2), m.2) 19 i = aI (gcZ g) 3 (upd (m.1.1 19 i) j v) := by simp only [ent, up3_eq]
theorem ea_20 (g : GG) (m : MW) (i j : Nat) (v : Int32) : ent g ((up3 m.1.1 20 i j v, m.1.2), m.2) 20 i = aI (gcI g) 3 (upd (m.1.1 20 i) j v) := by simp only [ent, up3_eq]
theorem ea_21 (g : GG) (m : MW) (i j : Nat) (v : Int32) : ent g ((up3 m.1.1 21 i j v, m.1.2), m.2) 21 i = aI (gcI g) 3 (upd (m.1.1 21 i) j v) := by simp only [ent, up3_eq]
theorem ea_30 (g : GG) (m : MW) (j : Nat) (v : Int32) : ent g (m.1, up2 m.2 30 j v) 30 0 = aI (gcI g) 10 (upd (m.2 30) j v) := by simp only [ent, up2_eq]
theorem ea_31 (g : GG) (m : MW) (j : Nat) (v : Int32) : ent g (m.1, up2 m.2 31 j v) 31 0 = aI (gcI g) 10 (upd (m.2 31) j v) := by simp only [ent, up2_eq]
theorem ea_33 (g : GG) (m : MW) (j : Nat) (v : Int32) : ent g (m.1, up2 m.2 33 j v) 33 0 = aI (gcI g) 10 (upd (m.2 33) j v) := by simp only [ent, up2_eq]
theorem ea_34 (g : GG) (m : MW) (j : Nat) (v : Int32) : ent g (m.1, up2 m.2 34 j v) 34 0 = aI (gcI g) 10 (upd (m.2 34) j v) := by simp only [ent, up2_eq]
theorem ea_35 (g : GG) (m : MW) (j : Nat) (v : Int32) : ent g (m.1, up2 m.2 35 j v) 35 0 = aI (gcI g) 80 (upd (m.2 35) j v) := by simp only [ent, up2_eq]
theorem ea_36 (g : GG) (m : MW) (j : Nat) (v : Int32) : ent g (m.1, up2 m.2 36 j v) 36 0 = aI (gcI g) 80 (upd (m.2 36) j v) := by simp only [ent, up2_eq]
theorem ea_37 (g : GG) (m : MW) (j : Nat) (v : Int32) : ent g (m.1, up2 m.2 37 j v) 37 0 = aI (gcI g) 80 (upd (m.2 37) j v) := by simp only [ent, up2_eq]
theorem ea_38 (g : GG) (m : MW) (j : Nat) (v : Int32) : ent g (m.1, up2 m.2 38 j v) 38 0 = aI (gcI g) 10 (upd (m.2 38) j v) := by simp only [ent, up2_eq]
theorem ea_39 (g : GG) (m : MW) (j : Nat) (v : Int32) : ent g (m.1, up2 m.2 39 j v) 39 0 = aI (gcI g) 10 (upd (m.2 39) j v) := by simp only [ent, up2_eq]
theorem ea_40 (g : GG) (m : MW) (j : Nat) (v : Int32) : ent g (m.1, up2 m.2 40 j v) 40 0 = aI (gcI g) 30 (upd (m.2 40) j v) := by simp only [ent, up2_eq]
theorem ea_41 (g : GG) (m : MW) (j : Nat) (v : Int32) : ent g (m.1, up2 m.2 41 j v) 41 0 = aI (gcI g) 30 (upd (m.2 41) j v) := by simp only [ent, up2_eq]
theorem ea_42 (g : GG) (m : MW) (j : Nat) (v : Int32) : ent g (m.1, up2 m.2 42 j v) 42 0 = aI (gcI g) 30 (upd (m.2 42) j v) := by simp only [ent, up2_eq]
theorem ea_43 (g : GG) (m : MW) (j : Nat) (v : Int32) : ent g (m.1, up2 m.2 43 j v) 43 0 = aI (gcI g) 30 (upd (m.2 43) j v) := by simp only [ent, up2_eq]
theorem ea_44 (g : GG) (m : MW) (j : Nat) (v : Int32) : ent g (m.1, up2 m.2 44 j v) 44 0 = aI (gcI g) 10 (upd (m.2 44) j v) := by simp only [ent, up2_eq]
theorem ea_45 (g : GG) (m : MW) (j : Nat) (v : Int32) : ent g (m.1, up2 m.2 45 j v) 45 0 = aI (gcI g) 10 (upd (m.2 45) j v) := by simp only [ent, up2_eq]
theorem ea_46 (g : GG) (m : MW) (j : Nat) (v : Int32) : ent g (m.1, up2 m.2 46 j v) 46 0 = aI (gcZ g) 10 (upd (m.2 46) j v) := by simp only [ent, up2_eq]
theorem ea_47 (g : GG) (m : MW) (j : Nat) (v : Int32) : ent g (m.1, up2 m.2 47 j v) 47 0 = aI (gcI g) 400 (upd (m.2 47) j v) := by simp only [ent, up2_eq]
theorem ea_50 (g : GG) (m : MW) (j : Nat) (v : Int32) : ent g (m.1, up2 m.2 50 j v) 50 0 = aI (gcZ g) 4 (upd (m.2 50) j v) := by simp only [ent, up2_eq]
theorem ea_51 (g : GG) (m : MW) (j : Nat) (v : Int32) : ent g (m.1, up2 m.2 51 j v) 51 0 = aI (gcI g) 4 (upd (m.2 51) j v) := by simp only [ent, up2_eq]
theorem ea_52 (g : GG) (m : MW) (j : Nat) (v : Int32) : ent g (m.1, up2 m.2 52 j v) 52 0 = aI (gcI g) 4 (upd (m.2 52) j v) := by simp only [ent, up2_eq]
theorem sw_0_8 {x : Int32} (h1 : ¬ x.toInt < 0) (h2 : ¬ 8 < x.toInt) : x = 0 ∨ x = 1 ∨ x = 2 ∨ x = 3 ∨ x = 4 ∨ x = 5 ∨ x = 6 ∨ x = 7 ∨ x = 8 := by
  have hx : x = Int32.ofInt x.toInt := (Int32.ofInt_toInt x).symm
  have h3 : x.toInt = 0 ∨ x.toInt = 1 ∨ x.toInt = 2 ∨ x.toInt = 3 ∨ x.toInt = 4 ∨ x.toInt = 5 ∨ x.toInt = 6 ∨ x.toInt = 7 ∨ x.toInt = 8 := by omega
  rcases h3 with h3 | h3 | h3 | h3 | h3 | h3 | h3 | h3 | h3
  · exact Or.inl <| (by rw [hx, h3]; rfl)
  · exact Or.inr <| Or.inl <| (by rw [hx, h3]; rfl)
  · exact Or.inr <| Or.inr <| Or.inl <| (by rw [hx, h3]; rfl)
  · exact Or.inr <| Or.inr <| Or.inr <| Or.inl <| (by rw [hx, h3]; rfl)
  · exact Or.inr <| Or.inr <| Or.inr <| Or.inr <| Or.inl <| (by rw [hx, h3]; rfl)
  · exact Or.inr <| Or.inr <| Or.inr <| Or.inr <| Or.inr <| Or.inl <| (by rw [hx, h3]; rfl)
  · exact Or.inr <| Or.inr <| Or.inr <| Or.inr <| Or.inr <| Or.inr <| Or.inl <| (by rw [hx, h3]; rfl)
  · exact Or.inr <| Or.inr <| Or.inr <| Or.inr <| Or.inr <| Or.inr <| Or.inr <| Or.inl <| (by rw [hx, h3]; rfl)
  · exact Or.inr <| Or.inr <| Or.inr <| Or.inr <| Or.inr <| Or.inr <| Or.inr <| Or.inr <| (by rw [hx, h3]; rfl)
theorem sw_0_9 {x : Int32} (h1 : ¬ x.toInt < 0) (h2 : ¬ 9 < x.toInt) : x = 0 ∨ x = 1 ∨ x = 2 ∨ x = 3 ∨ x = 4 ∨ x = 5 ∨ x = 6 ∨ x = 7 ∨ x = 8 ∨ x = 9 := by
  have hx : x = Int32.ofInt x.toInt := (Int32.ofInt_toInt x).symm
  have h3 : x.toInt = 0 ∨ x.toInt = 1 ∨ x.toInt = 2 ∨ x.toInt = 3 ∨ x.toInt = 4 ∨ x.toInt = 5 ∨ x.toInt = 6 ∨ x.toInt = 7 ∨ x.toInt = 8 ∨ x.toInt = 9 := by omega
  rcases h3 with h3 | h3 | h3 | h3 | h3 | h3 | h3 | h3 | h3 | h3
  · exact Or.inl <| (by rw [hx, h3]; rfl)
  · exact Or.inr <| Or.inl <| (by rw [hx, h3]; rfl)
  · exact Or.inr <| Or.inr <| Or.inl <| (by rw [hx, h3]; rfl)
  · exact Or.inr <| Or.inr <| Or.inr <| Or.inl <| (by rw [hx, h3]; rfl)
  · exact Or.inr <| Or.inr <| Or.inr <| Or.inr <| Or.inl <| (by rw [hx, h3]; rfl)
  · exact Or.inr <| Or.inr <| Or.inr <| Or.inr <| Or.inr <| Or.inl <| (by rw [hx, h3]; rfl)
  · exact Or.inr <| Or.inr <| Or.inr <| Or.inr <| Or.inr <| Or.inr <| Or.inl <| (by rw [hx, h3]; rfl)
  · exact Or.inr <| Or.inr <| Or.inr <| Or.inr <| Or.inr <| Or.inr <| Or.inr <| Or.inl <| (by rw [hx, h3]; rfl)
  · exact Or.inr <| Or.inr <| Or.inr <| Or.inr <| Or.inr <| Or.inr <| Or.inr <| Or.inr <| Or.inl <| (by rw [hx, h3]; rfl)
  · exact Or.inr <| Or.inr <| Or.inr <| Or.inr <| Or.inr <| Or.inr <| Or.inr <| Or.inr <| Or.inr <| (by rw [hx, h3]; rfl)
theorem sw_0_11 {x : Int32} (h1 : ¬ x.toInt < 0) (h2 : ¬ 11 < x.toInt) : x = 0 ∨ x = 1 ∨ x = 2 ∨ x = 3 ∨ x = 4 ∨ x = 5 ∨ x = 6 ∨ x = 7 ∨ x = 8 ∨ x = 9 ∨ x = 10 ∨ x = 11 := by
  have hx : x = Int32.ofInt x.toInt := (Int32.ofInt_toInt x).symm
  have h3 : x.toInt = 0 ∨ x.toInt = 1 ∨ x.toInt = 2 ∨ x.toInt = 3 ∨ x.toInt = 4 ∨ x.toInt = 5 ∨ x.toInt = 6 ∨ x.toInt = 7 ∨ x.toInt = 8 ∨ x.toInt = 9 ∨ x.toInt = 10 ∨ x.toInt = 11 := by omega
  rcases h3 with h3 | h3 | h3 | h3 | h3 | h3 | h3 | h3 | h3 | h3 | h3 | h3
  · exact Or.inl <| (by rw [hx, h3]; rfl)
  · exact Or.inr <| Or.inl <| (by rw [hx, h3]; rfl)
  · exact Or.inr <| Or.inr <| Or.inl <| (by rw [hx, h3]; rfl)
  · exact Or.inr <| Or.inr <| Or.inr <| Or.inl <| (by rw [hx, h3]; rfl)
  · exact Or.inr <| Or.inr <| Or.inr <| Or.inr <| Or.inl <| (by rw [hx, h3]; rfl)
  · exact Or.inr <| Or.inr <| Or.inr <| Or.inr <| Or.inr <| Or.inl <| (by rw [hx, h3]; rfl)
  · exact Or.inr <| Or.inr <| Or.inr <| Or.inr <| Or.inr <| Or.inr <| Or.inl <| (by rw [hx, h3]; rfl)
  · exact Or.inr <| Or.inr <| Or.inr <| Or.inr <| Or.inr <| Or.inr <| Or.inr <| Or.inl <| (by rw [hx, h3]; rfl)
  · exact Or.inr <| Or.inr <| Or.inr <| Or.inr <| Or.inr <| Or.inr <| Or.inr <| Or.inr <| Or.inl <| (by rw [hx, h3]; rfl)
  · exact Or.inr <| Or.inr <| Or.inr <| Or.inr <| Or.inr <| Or.inr <| Or.inr <| Or.inr <| Or.inr <| Or.inl <| (by rw [hx, h3]; rfl)
  · exact Or.inr <| Or.inr <| Or.inr <| Or.inr <| Or.inr <| Or.inr <| Or.inr <| Or.inr <| Or.inr <| Or.inr <| Or.inl <| (by rw [hx, h3]; rfl)
  · exact Or.inr <| Or.inr <| Or.inr <| Or.inr <| Or.inr <| Or.inr <| Or.inr <| Or.inr <| Or.inr <| Or.inr <| Or.inr <| (by rw [hx, h3]; rfl)
theorem sw_2_4 {x : Int32} (h1 : ¬ x.toInt < 2) (h2 : ¬ 4 < x.toInt) : x = 2 ∨ x = 3 ∨ x = 4 := by
  have hx : x = Int32.ofInt x.toInt := (Int32.ofInt_toInt x).symm
  have h3 : x.toInt = 2 ∨ x.toInt = 3 ∨ x.toInt = 4 := by omega
  rcases h3 with h3 | h3 | h3
  · exact Or.inl <| (by rw [hx, h3]; rfl)
  · exact Or.inr <| Or.inl <| (by rw [hx, h3]; rfl)
  · exact Or.inr <| Or.inr <| (by rw [hx, h3]; rfl)
