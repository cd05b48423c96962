theorem hd_X7_isFact : yX7_isFact.cls = RX7 ∧ yX7_isFact.cls ≠ "java/lang/invoke/MethodHandle" ∧ yX7_isFact.cls ≠ "java/lang/invoke/VarHandle" ∧ (parseMethodDescriptor yX7_isFact.desc).map (fun d => d.parameters.length) = some 1 := by decide +kernel
def V_X7_isFact (x0 : Int32) (m : MW) (K : Int32 → MW → Prop) : Prop := ((x0 < 0 → (K 0 m)) ∧ (¬ x0 < 0 → ((10 ≤ x0 → (K 0 m)) ∧ (¬ 10 ≤ x0 → (K 1 m)))))
set_option maxHeartbeats 4000000 in
set_option maxRecDepth 100000 in
theorem w_X7_isFact {l : Launch} {g : GG} {x0 : Int32} {m : MW} {K : Int32 → MW → Prop} (hV : V_X7_isFact  x0 m K) : Ct l yX7_isFact cX7_isFact 1 (some .boolean) 0 0 [.int x0] g m (Ei K) := by
  refine ct_intro RX7 (by decide) rfl (Nat.le_of_ble_eq_true rfl) ?_
  intro p e s mi below meth c C
  unfold V_X7_isFact at hV
  refine kt_iload_n C dX7_isFact_0 rfl rfl ?_
  refine kt_if_lt C 14 dX7_isFact_1 rfl (fun c1 => ?_) (fun c1 => ?_)
  · have hV := hV.1 c1
    refine kt_iconst (v := 0) C dX7_isFact_14 (by decide) ?_
    exact kt_zret C rfl ⟨_, rfl, hV⟩ dX7_isFact_15
  · have hV := hV.2 c1
    refine kt_iload_n C dX7_isFact_4 rfl rfl ?_
    refine kt_bipush (v := 10) C dX7_isFact_5 (by decide) ?_
    refine kt_icmp_ge C 14 dX7_isFact_7 rfl (fun c7 => ?_) (fun c7 => ?_)
    · have hV := hV.1 c7
      refine kt_iconst (v := 0) C dX7_isFact_14 (by decide) ?_
      exact kt_zret C rfl ⟨_, rfl, hV⟩ dX7_isFact_15
    · have hV := hV.2 c7
      refine kt_iconst (v := 1) C dX7_isFact_10 (by decide) ?_
      refine kt_goto C 15 dX7_isFact_11 rfl ?_
      exact kt_zret C rfl ⟨_, rfl, hV⟩ dX7_isFact_15
theorem hd_X7_isEnd : yX7_isEnd.cls = RX7 ∧ yX7_isEnd.cls ≠ "java/lang/invoke/MethodHandle" ∧ yX7_isEnd.cls ≠ "java/lang/invoke/VarHandle" ∧ (parseMethodDescriptor yX7_isEnd.desc).map (fun d => d.parameters.length) = some 1 := by decide +kernel
def V_X7_isEnd (x0 : Int32) (m : MW) (K : Int32 → MW → Prop) : Prop := ((x0 < (-1000000) → (K 0 m)) ∧ (¬ x0 < (-1000000) → (((1000000) < x0 → (K 0 m)) ∧ (¬ (1000000) < x0 → (K 1 m)))))
set_option maxHeartbeats 4000000 in
set_option maxRecDepth 100000 in
theorem w_X7_isEnd {l : Launch} {g : GG} {x0 : Int32} {m : MW} {K : Int32 → MW → Prop} (hV : V_X7_isEnd  x0 m K) : Ct l yX7_isEnd cX7_isEnd 1 (some .boolean) 0 0 [.int x0] g m (Ei K) := by
  refine ct_intro RX7 (by decide) rfl (Nat.le_of_ble_eq_true rfl) ?_
  intro p e s mi below meth c C
  unfold V_X7_isEnd at hV
  refine kt_iload_n C dX7_isEnd_0 rfl rfl ?_
  refine kt_ldc (v := (-1000000)) C wd_177 dX7_isEnd_1 ?_
  refine kt_icmp_lt C 16 dX7_isEnd_3 rfl (fun c3 => ?_) (fun c3 => ?_)
  · have hV := hV.1 c3
    refine kt_iconst (v := 0) C dX7_isEnd_16 (by decide) ?_
    exact kt_zret C rfl ⟨_, rfl, hV⟩ dX7_isEnd_17
  · have hV := hV.2 c3
    refine kt_iload_n C dX7_isEnd_6 rfl rfl ?_
    refine kt_ldc (v := (1000000)) C wd_178 dX7_isEnd_7 ?_
    refine kt_icmp_gt C 16 dX7_isEnd_9 rfl (fun c9 => ?_) (fun c9 => ?_)
    · have hV := hV.1 c9
      refine kt_iconst (v := 0) C dX7_isEnd_16 (by decide) ?_
      exact kt_zret C rfl ⟨_, rfl, hV⟩ dX7_isEnd_17
    · have hV := hV.2 c9
      refine kt_iconst (v := 1) C dX7_isEnd_12 (by decide) ?_
      refine kt_goto C 17 dX7_isEnd_13 rfl ?_
      exact kt_zret C rfl ⟨_, rfl, hV⟩ dX7_isEnd_17
theorem hd_X7_nearestEnd : yX7_nearestEnd.cls = RX7 ∧ yX7_nearestEnd.cls ≠ "java/lang/invoke/MethodHandle" ∧ yX7_nearestEnd.cls ≠ "java/lang/invoke/VarHandle" ∧ (parseMethodDescriptor yX7_nearestEnd.desc).map (fun d => d.parameters.length) = some 1 := by decide +kernel
def V_X7_nearestEnd (x0 : Int32) (m : MW) (K : Int32 → MW → Prop) : Prop := (((-1000000) ≤ x0 → ((x0 ≤ (1000000) → (K x0 m)) ∧ (¬ x0 ≤ (1000000) → (K (1000000) m)))) ∧ (¬ (-1000000) ≤ x0 → (K (-1000000) m)))
set_option maxHeartbeats 4000000 in
set_option maxRecDepth 100000 in
theorem w_X7_nearestEnd {l : Launch} {g : GG} {x0 : Int32} {m : MW} {K : Int32 → MW → Prop} (hV : V_X7_nearestEnd  x0 m K) : Ct l yX7_nearestEnd cX7_nearestEnd 1 (some .int) 0 0 [.int x0] g m (Ei K) := by
  refine ct_intro RX7 (by decide) rfl (Nat.le_of_ble_eq_true rfl) ?_
  intro p e s mi below meth c C
  unfold V_X7_nearestEnd at hV
  refine kt_iload_n C dX7_nearestEnd_0 rfl rfl ?_
  refine kt_ldc (v := (-1000000)) C wd_177 dX7_nearestEnd_1 ?_
  refine kt_icmp_ge C 9 dX7_nearestEnd_3 rfl (fun c3 => ?_) (fun c3 => ?_)
  · have hV := hV.1 c3
    refine kt_iload_n C dX7_nearestEnd_9 rfl rfl ?_
    refine kt_ldc (v := (1000000)) C wd_178 dX7_nearestEnd_10 ?_
    refine kt_icmp_le C 20 dX7_nearestEnd_12 rfl (fun c12 => ?_) (fun c12 => ?_)
    · have hV := hV.1 c12
      refine kt_iload_n C dX7_nearestEnd_20 rfl rfl ?_
      exact kt_iret C ⟨_, rfl, hV⟩ dX7_nearestEnd_21
    · have hV := hV.2 c12
      refine kt_ldc (v := (1000000)) C wd_178 dX7_nearestEnd_15 ?_
      refine kt_goto C 21 dX7_nearestEnd_17 rfl ?_
      exact kt_iret C ⟨_, rfl, hV⟩ dX7_nearestEnd_21
  · have hV := hV.2 c3
    refine kt_ldc (v := (-1000000)) C wd_177 dX7_nearestEnd_6 ?_
    exact kt_iret C ⟨_, rfl, hV⟩ dX7_nearestEnd_8
theorem hd_X0_isItem : yX0_isItem.cls = RX0 ∧ yX0_isItem.cls ≠ "java/lang/invoke/MethodHandle" ∧ yX0_isItem.cls ≠ "java/lang/invoke/VarHandle" ∧ (parseMethodDescriptor yX0_isItem.desc).map (fun d => d.parameters.length) = some 1 := by decide +kernel
def V_X0_isItem (x0 : Int32) (m : MW) (K : Int32 → MW → Prop) : Prop := ((x0 < 0 → (K 0 m)) ∧ (¬ x0 < 0 → ((3 ≤ x0 → (K 0 m)) ∧ (¬ 3 ≤ x0 → (K 1 m)))))
set_option maxHeartbeats 4000000 in
set_option maxRecDepth 100000 in
theorem w_X0_isItem {l : Launch} {g : GG} {x0 : Int32} {m : MW} {K : Int32 → MW → Prop} (hV : V_X0_isItem  x0 m K) : Ct l yX0_isItem cX0_isItem 1 (some .boolean) 0 0 [.int x0] g m (Ei K) := by
  refine ct_intro RX0 (by decide) rfl (Nat.le_of_ble_eq_true rfl) ?_
  intro p e s mi below meth c C
  unfold V_X0_isItem at hV
  refine kt_iload_n C dX0_isItem_0 rfl rfl ?_
  refine kt_if_lt C 13 dX0_isItem_1 rfl (fun c1 => ?_) (fun c1 => ?_)
  · have hV := hV.1 c1
    refine kt_iconst (v := 0) C dX0_isItem_13 (by decide) ?_
    exact kt_zret C rfl ⟨_, rfl, hV⟩ dX0_isItem_14
  · have hV := hV.2 c1
    refine kt_iload_n C dX0_isItem_4 rfl rfl ?_
    refine kt_iconst (v := 3) C dX0_isItem_5 (by decide) ?_
    refine kt_icmp_ge C 13 dX0_isItem_6 rfl (fun c6 => ?_) (fun c6 => ?_)
    · have hV := hV.1 c6
      refine kt_iconst (v := 0) C dX0_isItem_13 (by decide) ?_
      exact kt_zret C rfl ⟨_, rfl, hV⟩ dX0_isItem_14
    · have hV := hV.2 c6
      refine kt_iconst (v := 1) C dX0_isItem_9 (by decide) ?_
      refine kt_goto C 14 dX0_isItem_10 rfl ?_
      exact kt_zret C rfl ⟨_, rfl, hV⟩ dX0_isItem_14
theorem hd_X0_empty : yX0_empty.cls = RX0 ∧ yX0_empty.cls ≠ "java/lang/invoke/MethodHandle" ∧ yX0_empty.cls ≠ "java/lang/invoke/VarHandle" ∧ (parseMethodDescriptor yX0_empty.desc).map (fun d => d.parameters.length) = some 0 := by decide +kernel
def V_X0_empty_7 (n : Nat) (i0 : Nat) (y1 : Int32) (m : MW) (K : MW → Prop) : Prop := match n with
  | 0 => False
  | n + 1 => ((3 ≤ y1 → (K m)) ∧ (¬ 3 ≤ y1 → (vp_in y1 3 ∧ ∀ m2 : MW, m2 = ((up3 m.1.1 19 i0 (y1).toNatClampNeg 0, m.1.2), m.2) → (V_X0_empty_7 n i0 ((y1 + 1)) m2 K))))
def V_X0_empty (i0 : Nat) (m : MW) (K : MW → Prop) : Prop := (∀ m1 : MW, m1 = ((up3 m.1.1 16 i0 2 0, m.1.2), m.2) → (∃ k : Nat, V_X0_empty_7 k i0 (0) m1 K))
set_option maxHeartbeats 4000000 in
set_option maxRecDepth 100000 in
theorem w_X0_empty_7 {p : Program} {l : Launch} {e : Env} {s : State} {mi : MethodId} {args : Array Value} {below : List Frame} {meth : Method} {c : Code} {g : GG} {i0 : Nat} {K : MW → Prop} (C : Cx p s mi args meth c cX0_empty RX0 2 none g) (h0 : i0 < 4) (n : Nat) : ∀ {y1 : Int32} {m : MW}, V_X0_empty_7 n i0 y1 m K → TT p l e { frames := 0, cells := 0, slots := 0, locals := 0 } s mi args below meth c 0 0 (MQ below (QE g (Ev K)) args s 0 0 (gA g)) g 2 m 7 [(0, .ref (gad g 16 i0)), (1, .int (y1))] [] := by
  induction n with
  | zero => intros; rename_i hV; exact absurd hV (by simp [V_X0_empty_7])
  | succ n ih =>
    intro y1 m hV
    unfold V_X0_empty_7 at hV
    refine kt_iload_n C dX0_empty_7 rfl rfl ?_
    refine kt_iconst (v := 3) C dX0_empty_8 (by decide) ?_
    refine kt_icmp_ge C 25 dX0_empty_9 rfl (fun c9 => ?_) (fun c9 => ?_)
    · have hV := hV.1 c9
      exact kt_vret C ⟨rfl, hV⟩ dX0_empty_25
    · have hV := hV.2 c9
      refine kt_aload_n C dX0_empty_12 rfl rfl ?_
      refine kt_get (ci := 0) C 3 h0 rfl rfl inlX0 (by decide) wd_83 rfl dX0_empty_13 ?_
      refine kt_iload_n C dX0_empty_16 rfl rfl ?_
      refine kt_iconst (v := 0) C dX0_empty_17 (by decide) ?_
      refine kt_zast3 (v' := 0) C h0 rfl hV.1 rfl (ea_19 _ _ _ _ _) dX0_empty_18 (fun m2 hm2 => ?_)
      have hV := hV.2 m2 hm2
      refine kt_iinc (v := _ + 1) (lv' := [(1, .int _), (0, .ref _)]) C dX0_empty_19 rfl rfl (by decide) rfl ?_
      refine kt_goto C 7 dX0_empty_22 rfl ?_
      refine kt_pick (lv' := [(0, .ref _), (1, .int _)]) [1, 0] rfl ?_
      exact ih  hV
set_option maxHeartbeats 4000000 in
set_option maxRecDepth 100000 in
theorem w_X0_empty {l : Launch} {g : GG} {i0 : Nat} {m : MW} {K : MW → Prop} (h0 : i0 < 4) (hV : V_X0_empty i0  m K) : Ct l yX0_empty cX0_empty 2 none 0 0 [.ref (gad g 16 i0)] g m (Ev K) := by
  refine ct_intro RX0 (by decide) rfl (Nat.le_of_ble_eq_true rfl) ?_
  intro p e s mi below meth c C
  unfold V_X0_empty at hV
  refine kt_aload_n C dX0_empty_0 rfl rfl ?_
  refine kt_iconst (v := 0) C dX0_empty_1 (by decide) ?_
  refine kt_put3 (ty := .int) (ci := 0) C 2 h0 rfl rfl inlX0 tyX0_ok nmX0 (by decide) wd_82 rfl (by decide +kernel) rfl rfl (Nat.le_of_ble_eq_true rfl) (ep_16_2 _ _ _ _) dX0_empty_2 (fun m1 hm1 => ?_)
  have hV := hV m1 hm1
  refine kt_iconst (v := 0) C dX0_empty_5 (by decide) ?_
  refine kt_istore_n (lv' := [(1, .int _), (0, .ref _)]) C dX0_empty_6 rfl (by decide) rfl ?_
  obtain ⟨k, hV⟩ := hV
  refine kt_pick (lv' := [(0, .ref _), (1, .int _)]) [1, 0] rfl ?_
  exact w_X0_empty_7 C h0 k hV
theorem hd_X0_push : yX0_push.cls = RX0 ∧ yX0_push.cls ≠ "java/lang/invoke/MethodHandle" ∧ yX0_push.cls ≠ "java/lang/invoke/VarHandle" ∧ (parseMethodDescriptor yX0_push.desc).map (fun d => d.parameters.length) = some 2 := by decide +kernel
def V_X0_push (i0 : Nat) (x1 : Int32) (x2 : Int32) (m : MW) (K : Int32 → MW → Prop) : Prop := (((m.1.1 16 i0 2) < 3 → (vp_in (m.1.1 16 i0 2) 3 ∧ ∀ m1 : MW, m1 = ((up3 m.1.1 17 i0 ((m.1.1 16 i0 2)).toNatClampNeg x1, m.1.2), m.2) → (vp_in (m1.1.1 16 i0 2) 3 ∧ ∀ m2 : MW, m2 = ((up3 m1.1.1 18 i0 ((m1.1.1 16 i0 2)).toNatClampNeg x2, m1.1.2), m1.2) → (∀ m3 : MW, m3 = ((up3 m2.1.1 16 i0 2 ((m2.1.1 16 i0 2) + 1), m2.1.2), m2.2) → (K 0 m3))))) ∧ (¬ (m.1.1 16 i0 2) < 3 → (K 2 m)))
set_option maxHeartbeats 4000000 in
set_option maxRecDepth 100000 in
theorem w_X0_push {l : Launch} {g : GG} {i0 : Nat} {x1 : Int32} {x2 : Int32} {m : MW} {K : Int32 → MW → Prop} (h0 : i0 < 4) (hV : V_X0_push i0 x1 x2 m K) : Ct l yX0_push cX0_push 3 (some .int) 0 0 [.ref (gad g 16 i0), .int x1, .int x2] g m (Ei K) := by
  refine ct_intro RX0 (by decide) rfl (Nat.le_of_ble_eq_true rfl) ?_
  intro p e s mi below meth c C
  unfold V_X0_push at hV
  refine kt_aload_n C dX0_push_0 rfl rfl ?_
  refine kt_get (ci := 0) C 2 h0 rfl rfl inlX0 (by decide) wd_82 rfl dX0_push_1 ?_
  refine kt_iconst (v := 3) C dX0_push_4 (by decide) ?_
  refine kt_icmp_lt C 10 dX0_push_5 rfl (fun c5 => ?_) (fun c5 => ?_)
  · have hV := hV.1 c5
    refine kt_aload_n C dX0_push_10 rfl rfl ?_
    refine kt_get (ci := 0) C 0 h0 rfl rfl inlX0 (by decide) wd_80 rfl dX0_push_11 ?_
    refine kt_aload_n C dX0_push_14 rfl rfl ?_
    refine kt_get (ci := 0) C 2 h0 rfl rfl inlX0 (by decide) wd_82 rfl dX0_push_15 ?_
    refine kt_iload_n C dX0_push_18 rfl rfl ?_
    refine kt_iast3 C h0 rfl hV.1 (ea_17 _ _ _ _ _) dX0_push_19 (fun m1 hm1 => ?_)
    have hV := hV.2 m1 hm1
    refine kt_aload_n C dX0_push_20 rfl rfl ?_
    refine kt_get (ci := 0) C 1 h0 rfl rfl inlX0 (by decide) wd_81 rfl dX0_push_21 ?_
    refine kt_aload_n C dX0_push_24 rfl rfl ?_
    refine kt_get (ci := 0) C 2 h0 rfl rfl inlX0 (by decide) wd_82 rfl dX0_push_25 ?_
    refine kt_iload_n C dX0_push_28 rfl rfl ?_
    refine kt_iast3 C h0 rfl hV.1 (ea_18 _ _ _ _ _) dX0_push_29 (fun m2 hm2 => ?_)
    have hV := hV.2 m2 hm2
    refine kt_aload_n C dX0_push_30 rfl rfl ?_
    refine kt_dup C dX0_push_31 rfl ?_
    refine kt_get (ci := 0) C 2 h0 rfl rfl inlX0 (by decide) wd_82 rfl dX0_push_32 ?_
    refine kt_iconst (v := 1) C dX0_push_35 (by decide) ?_
    refine kt_iadd C dX0_push_36 ?_
    refine kt_put3 (ty := .int) (ci := 0) C 2 h0 rfl rfl inlX0 tyX0_ok nmX0 (by decide) wd_82 rfl (by decide +kernel) rfl rfl (Nat.le_of_ble_eq_true rfl) (ep_16_2 _ _ _ _) dX0_push_37 (fun m3 hm3 => ?_)
    have hV := hV m3 hm3
    refine kt_iconst (v := 0) C dX0_push_40 (by decide) ?_
    exact kt_iret C ⟨_, rfl, hV⟩ dX0_push_41
  · have hV := hV.2 c5
    refine kt_iconst (v := 2) C dX0_push_8 (by decide) ?_
    exact kt_iret C ⟨_, rfl, hV⟩ dX0_push_9
theorem hd_X0_pushFact : yX0_pushFact.cls = RX0 ∧ yX0_pushFact.cls ≠ "java/lang/invoke/MethodHandle" ∧ yX0_pushFact.cls ≠ "java/lang/invoke/VarHandle" ∧ (parseMethodDescriptor yX0_pushFact.desc).map (fun d => d.parameters.length) = some 2 := by decide +kernel
def V_X0_pushFact (i0 : Nat) (x1 : Int32) (m : MW) (K : Int32 → MW → Prop) : Prop := (V_X7_isFact  (x1) m (fun v2 m1 => ((¬ v2 = 0 → (vp_in x1 10 ∧ (((m1.1.1 2 0 (x1).toNatClampNeg) = 0 → (K 1 m1)) ∧ (¬ (m1.1.1 2 0 (x1).toNatClampNeg) = 0 → (vp_in x1 10 ∧ (vp_in x1 10 ∧ (V_X0_push i0 ((m1.1.1 3 0 (x1).toNatClampNeg)) ((m1.1.1 4 0 (x1).toNatClampNeg)) m1 (fun v4 m3 => (K v4 m3))))))))) ∧ (v2 = 0 → (K 2 m1)))))
set_option maxHeartbeats 4000000 in
set_option maxRecDepth 100000 in
theorem w_X0_pushFact {l : Launch} {g : GG} {i0 : Nat} {x1 : Int32} {m : MW} {K : Int32 → MW → Prop} (h0 : i0 < 4) (hV : V_X0_pushFact i0 x1 m K) : Ct l yX0_pushFact cX0_pushFact 3 (some .int) 1 22 [.ref (gad g 16 i0), .int x1, .ref (gad g 1 0)] g m (Ei K) := by
  refine ct_intro RX0 (by decide) rfl (Nat.le_of_ble_eq_true rfl) ?_
  intro p e s mi below meth c C
  unfold V_X0_pushFact at hV
  refine kt_iload_n C dX0_pushFact_0 rfl rfl ?_
  refine kt_callN (n := 1) C (w_X7_isFact  hV) C.2.2.2.2.2.1.2.2.2.2.1 wd_152 wd_2 wd_153 hd_X7_isFact.2 rfl ⟨Nat.le_of_ble_eq_true rfl, Nat.le_of_ble_eq_true rfl⟩ ⟨Nat.zero_le _, Nat.zero_le _⟩ rfl (Nat.le_of_ble_eq_true rfl) dX0_pushFact_1 (fun r m1 hE => ?_)
  obtain ⟨v2, rfl, hV⟩ := hE
  refine kt_sti ?_
  refine kt_if_ne C 9 dX0_pushFact_4 rfl (fun c4 => ?_) (fun c4 => ?_)
  · have hV := hV.1 c4
    refine kt_aload_n C dX0_pushFact_9 rfl rfl ?_
    refine kt_get (ci := 2) C 0 (by decide) rfl rfl inlX2 (by decide) wd_381 rfl dX0_pushFact_10 ?_
    refine kt_iload_n C dX0_pushFact_13 rfl rfl ?_
    refine kt_zald C (by decide) rfl hV.1 dX0_pushFact_14 ?_
    have hV := hV.2
    refine kt_if_eq C 37 dX0_pushFact_15 rfl (fun c15 => ?_) (fun c15 => ?_)
    · have hV := hV.1 c15
      refine kt_iconst (v := 1) C dX0_pushFact_37 (by decide) ?_
      exact kt_iret C ⟨_, rfl, hV⟩ dX0_pushFact_38
    · have hV := hV.2 c15
      refine kt_aload_n C dX0_pushFact_18 rfl rfl ?_
      refine kt_aload_n C dX0_pushFact_19 rfl rfl ?_
      refine kt_get (ci := 2) C 1 (by decide) rfl rfl inlX2 (by decide) wd_382 rfl dX0_pushFact_20 ?_
      refine kt_iload_n C dX0_pushFact_23 rfl rfl ?_
      refine kt_iald C (by decide) rfl hV.1 dX0_pushFact_24 ?_
      have hV := hV.2
      refine kt_aload_n C dX0_pushFact_25 rfl rfl ?_
      refine kt_get (ci := 2) C 2 (by decide) rfl rfl inlX2 (by decide) wd_383 rfl dX0_pushFact_26 ?_
      refine kt_iload_n C dX0_pushFact_29 rfl rfl ?_
      refine kt_iald C (by decide) rfl hV.1 dX0_pushFact_30 ?_
      have hV := hV.2
      refine kt_callV (n := 2) C (w_X0_push h0 hV) h0 rfl rfl wd_373 wd_374 wd_375 wd_70 wd_376 hd_X0_push rfl ⟨Nat.le_of_ble_eq_true rfl, Nat.le_of_ble_eq_true rfl⟩ ⟨Nat.zero_le _, Nat.zero_le _⟩ rfl (Nat.le_of_ble_eq_true rfl) dX0_pushFact_31 (fun r m3 hE => ?_)
      obtain ⟨v4, rfl, hV⟩ := hE
      refine kt_sti ?_
      refine kt_goto C 38 dX0_pushFact_34 rfl ?_
      exact kt_iret C ⟨_, rfl, hV⟩ dX0_pushFact_38
  · have hV := hV.2 c4
    refine kt_iconst (v := 2) C dX0_pushFact_7 (by decide) ?_
    exact kt_iret C ⟨_, rfl, hV⟩ dX0_pushFact_8
theorem hd_X0_joinUpperTwo : yX0_joinUpperTwo.cls = RX0 ∧ yX0_joinUpperTwo.cls ≠ "java/lang/invoke/MethodHandle" ∧ yX0_joinUpperTwo.cls ≠ "java/lang/invoke/VarHandle" ∧ (parseMethodDescriptor yX0_joinUpperTwo.desc).map (fun d => d.parameters.length) = some 1 := by decide +kernel
def V_X0_joinUpperTwo (i0 : Nat) (x1 : Int32) (m : MW) (K : Int32 → MW → Prop) : Prop := ((2 ≤ (m.1.1 16 i0 2) → (∀ m1 : MW, m1 = ((up3 m.1.1 16 i0 2 ((m.1.1 16 i0 2) - 2), m.1.2), m.2) → ((((x1 : Int32).toInt < 2 ∨ 4 < (x1 : Int32).toInt) → (vp_in ((m.1.1 16 i0 2) - 2) 3 ∧ (vp_in ((m.1.1 16 i0 2) - 1) 3 ∧ (vp_in ((m.1.1 16 i0 2) - 2) 3 ∧ (vp_in ((m.1.1 16 i0 2) - 1) 3 ∧ (V_X0_push i0 ((if (m1.1.1 17 i0 (((m.1.1 16 i0 2) - 1)).toNatClampNeg) < (m1.1.1 17 i0 (((m.1.1 16 i0 2) - 2)).toNatClampNeg) then (m1.1.1 17 i0 (((m.1.1 16 i0 2) - 1)).toNatClampNeg) else (m1.1.1 17 i0 (((m.1.1 16 i0 2) - 2)).toNatClampNeg))) ((if (m1.1.1 18 i0 (((m.1.1 16 i0 2) - 2)).toNatClampNeg) < (m1.1.1 18 i0 (((m.1.1 16 i0 2) - 1)).toNatClampNeg) then (m1.1.1 18 i0 (((m.1.1 16 i0 2) - 1)).toNatClampNeg) else (m1.1.1 18 i0 (((m.1.1 16 i0 2) - 2)).toNatClampNeg))) m1 (fun v3 m2 => (K v3 m2)))))))) ∧ ((x1 = 2 → (vp_in ((m.1.1 16 i0 2) - 2) 3 ∧ (vp_in ((m.1.1 16 i0 2) - 1) 3 ∧ (V_X7_nearestEnd  (((m1.1.1 17 i0 (((m.1.1 16 i0 2) - 2)).toNatClampNeg) + (m1.1.1 17 i0 (((m.1.1 16 i0 2) - 1)).toNatClampNeg))) m1 (fun v5 m4 => (vp_in ((m.1.1 16 i0 2) - 2) 3 ∧ (vp_in ((m.1.1 16 i0 2) - 1) 3 ∧ (V_X7_nearestEnd  (((m4.1.1 18 i0 (((m.1.1 16 i0 2) - 2)).toNatClampNeg) + (m4.1.1 18 i0 (((m.1.1 16 i0 2) - 1)).toNatClampNeg))) m4 (fun v7 m6 => (V_X0_push i0 (v5) (v7) m6 (fun v9 m8 => (K v9 m8)))))))))))) ∧ ((x1 = 3 → (vp_in ((m.1.1 16 i0 2) - 2) 3 ∧ (vp_in ((m.1.1 16 i0 2) - 1) 3 ∧ (V_X7_nearestEnd  (((m1.1.1 17 i0 (((m.1.1 16 i0 2) - 2)).toNatClampNeg) - (m1.1.1 18 i0 (((m.1.1 16 i0 2) - 1)).toNatClampNeg))) m1 (fun v11 m10 => (vp_in ((m.1.1 16 i0 2) - 2) 3 ∧ (vp_in ((m.1.1 16 i0 2) - 1) 3 ∧ (V_X7_nearestEnd  (((m10.1.1 18 i0 (((m.1.1 16 i0 2) - 2)).toNatClampNeg) - (m10.1.1 17 i0 (((m.1.1 16 i0 2) - 1)).toNatClampNeg))) m10 (fun v13 m12 => (V_X0_push i0 (v11) (v13) m12 (fun v15 m14 => (K v15 m14)))))))))))) ∧ (x1 = 4 → (vp_in ((m.1.1 16 i0 2) - 2) 3 ∧ (vp_in ((m.1.1 16 i0 2) - 1) 3 ∧ (((m1.1.1 18 i0 (((m.1.1 16 i0 2) - 1)).toNatClampNeg) < (m1.1.1 17 i0 (((m.1.1 16 i0 2) - 2)).toNatClampNeg) → (K 5 m1)) ∧ (¬ (m1.1.1 18 i0 (((m.1.1 16 i0 2) - 1)).toNatClampNeg) < (m1.1.1 17 i0 (((m.1.1 16 i0 2) - 2)).toNatClampNeg) → (vp_in ((m.1.1 16 i0 2) - 1) 3 ∧ (vp_in ((m.1.1 16 i0 2) - 2) 3 ∧ (((m1.1.1 17 i0 (((m.1.1 16 i0 2) - 1)).toNatClampNeg) ≤ (m1.1.1 18 i0 (((m.1.1 16 i0 2) - 2)).toNatClampNeg) → (vp_in ((m.1.1 16 i0 2) - 2) 3 ∧ (vp_in ((m.1.1 16 i0 2) - 1) 3 ∧ (vp_in ((m.1.1 16 i0 2) - 2) 3 ∧ (vp_in ((m.1.1 16 i0 2) - 1) 3 ∧ (V_X0_push i0 ((if (m1.1.1 17 i0 (((m.1.1 16 i0 2) - 2)).toNatClampNeg) < (m1.1.1 17 i0 (((m.1.1 16 i0 2) - 1)).toNatClampNeg) then (m1.1.1 17 i0 (((m.1.1 16 i0 2) - 1)).toNatClampNeg) else (m1.1.1 17 i0 (((m.1.1 16 i0 2) - 2)).toNatClampNeg))) ((if (m1.1.1 18 i0 (((m.1.1 16 i0 2) - 1)).toNatClampNeg) < (m1.1.1 18 i0 (((m.1.1 16 i0 2) - 2)).toNatClampNeg) then (m1.1.1 18 i0 (((m.1.1 16 i0 2) - 1)).toNatClampNeg) else (m1.1.1 18 i0 (((m.1.1 16 i0 2) - 2)).toNatClampNeg))) m1 (fun v17 m16 => (K v17 m16)))))))) ∧ (¬ (m1.1.1 17 i0 (((m.1.1 16 i0 2) - 1)).toNatClampNeg) ≤ (m1.1.1 18 i0 (((m.1.1 16 i0 2) - 2)).toNatClampNeg) → (K 5 m1))))))))))))))) ∧ (¬ 2 ≤ (m.1.1 16 i0 2) → (K 2 m)))
set_option maxHeartbeats 4000000 in
set_option maxRecDepth 100000 in
theorem w_X0_joinUpperTwo {l : Launch} {g : GG} {i0 : Nat} {x1 : Int32} {m : MW} {K : Int32 → MW → Prop} (h0 : i0 < 4) (hV : V_X0_joinUpperTwo i0 x1 m K) : Ct l yX0_joinUpperTwo cX0_joinUpperTwo 4 (some .int) 1 25 [.ref (gad g 16 i0), .int x1] g m (Ei K) := by
  refine ct_intro RX0 (by decide) rfl (Nat.le_of_ble_eq_true rfl) ?_
  intro p e s mi below meth c C
  unfold V_X0_joinUpperTwo at hV
  refine kt_aload_n C dX0_joinUpperTwo_0 rfl rfl ?_
  refine kt_get (ci := 0) C 2 h0 rfl rfl inlX0 (by decide) wd_82 rfl dX0_joinUpperTwo_1 ?_
  refine kt_iconst (v := 2) C dX0_joinUpperTwo_4 (by decide) ?_
  refine kt_icmp_ge C 10 dX0_joinUpperTwo_5 rfl (fun c5 => ?_) (fun c5 => ?_)
  · have hV := hV.1 c5
    refine kt_aload_n C dX0_joinUpperTwo_10 rfl rfl ?_
    refine kt_get (ci := 0) C 2 h0 rfl rfl inlX0 (by decide) wd_82 rfl dX0_joinUpperTwo_11 ?_
    refine kt_iconst (v := 2) C dX0_joinUpperTwo_14 (by decide) ?_
    refine kt_isub C dX0_joinUpperTwo_15 ?_
    refine kt_istore_n (lv' := [(2, .int _), (0, .ref _), (1, .int _)]) C dX0_joinUpperTwo_16 rfl (by decide) rfl ?_
    refine kt_aload_n C dX0_joinUpperTwo_17 rfl rfl ?_
    refine kt_get (ci := 0) C 2 h0 rfl rfl inlX0 (by decide) wd_82 rfl dX0_joinUpperTwo_18 ?_
    refine kt_iconst (v := 1) C dX0_joinUpperTwo_21 (by decide) ?_
    refine kt_isub C dX0_joinUpperTwo_22 ?_
    refine kt_istore_n (lv' := [(3, .int _), (2, .int _), (0, .ref _), (1, .int _)]) C dX0_joinUpperTwo_23 rfl (by decide) rfl ?_
    refine kt_aload_n C dX0_joinUpperTwo_24 rfl rfl ?_
    refine kt_iload_n C dX0_joinUpperTwo_25 rfl rfl ?_
    refine kt_put3 (ty := .int) (ci := 0) C 2 h0 rfl rfl inlX0 tyX0_ok nmX0 (by decide) wd_82 rfl (by decide +kernel) rfl rfl (Nat.le_of_ble_eq_true rfl) (ep_16_2 _ _ _ _) dX0_joinUpperTwo_26 (fun m1 hm1 => ?_)
    have hV := hV m1 hm1
    refine kt_iload_n C dX0_joinUpperTwo_29 rfl rfl ?_
    by_cases c30 : ((x1 : Int32).toInt < 2 ∨ 4 < (x1 : Int32).toInt)
    · have hV := hV.1 c30
      refine kt_tableOut C 197 dX0_joinUpperTwo_30 c30 rfl ?_
      refine kt_aload_n C dX0_joinUpperTwo_197 rfl rfl ?_
      refine kt_aload_n C dX0_joinUpperTwo_198 rfl rfl ?_
      refine kt_get (ci := 0) C 0 h0 rfl rfl inlX0 (by decide) wd_80 rfl dX0_joinUpperTwo_199 ?_
      refine kt_iload_n C dX0_joinUpperTwo_202 rfl rfl ?_
      refine kt_iald C h0 rfl hV.1 dX0_joinUpperTwo_203 ?_
      have hV := hV.2
      refine kt_aload_n C dX0_joinUpperTwo_204 rfl rfl ?_
      refine kt_get (ci := 0) C 0 h0 rfl rfl inlX0 (by decide) wd_80 rfl dX0_joinUpperTwo_205 ?_
      refine kt_iload_n C dX0_joinUpperTwo_208 rfl rfl ?_
      refine kt_iald C h0 rfl hV.1 dX0_joinUpperTwo_209 ?_
      have hV := hV.2
      refine kt_mmin C wd_391 wd_296 wd_297 wd_298 (Nat.le_of_ble_eq_true rfl) (Nat.le_of_ble_eq_true rfl) (Nat.zero_le _) (Nat.zero_le _) dX0_joinUpperTwo_210 ?_
      refine kt_aload_n C dX0_joinUpperTwo_213 rfl rfl ?_
      refine kt_get (ci := 0) C 1 h0 rfl rfl inlX0 (by decide) wd_81 rfl dX0_joinUpperTwo_214 ?_
      refine kt_iload_n C dX0_joinUpperTwo_217 rfl rfl ?_
      refine kt_iald C h0 rfl hV.1 dX0_joinUpperTwo_218 ?_
      have hV := hV.2
      refine kt_aload_n C dX0_joinUpperTwo_219 rfl rfl ?_
      refine kt_get (ci := 0) C 1 h0 rfl rfl inlX0 (by decide) wd_81 rfl dX0_joinUpperTwo_220 ?_
      refine kt_iload_n C dX0_joinUpperTwo_223 rfl rfl ?_
      refine kt_iald C h0 rfl hV.1 dX0_joinUpperTwo_224 ?_
      have hV := hV.2
      refine kt_mmax C wd_388 wd_389 wd_297 wd_390 (Nat.le_of_ble_eq_true rfl) (Nat.le_of_ble_eq_true rfl) (Nat.zero_le _) (Nat.zero_le _) dX0_joinUpperTwo_225 ?_
      refine kt_callV (n := 2) C (w_X0_push h0 hV) h0 rfl rfl wd_373 wd_374 wd_375 wd_70 wd_376 hd_X0_push rfl ⟨Nat.le_of_ble_eq_true rfl, Nat.le_of_ble_eq_true rfl⟩ ⟨Nat.zero_le _, Nat.zero_le _⟩ rfl (Nat.le_of_ble_eq_true rfl) dX0_joinUpperTwo_228 (fun r m2 hE => ?_)
      obtain ⟨v3, rfl, hV⟩ := hE
      refine kt_sti ?_
      exact kt_iret C ⟨_, rfl, hV⟩ dX0_joinUpperTwo_231
    · have hV := hV.2
      have c30a := fun h => c30 (Or.inl h)
      have c30b := fun h => c30 (Or.inr h)
      have c30c := sw_2_4 c30a c30b
      rcases c30c with c30d | c30d | c30d
      · have hV := hV.1 c30d
        refine kt_tableIn C 56 dX0_joinUpperTwo_30 c30a c30b (by rw [c30d]; rfl) rfl ?_
        refine kt_aload_n C dX0_joinUpperTwo_56 rfl rfl ?_
        refine kt_aload_n C dX0_joinUpperTwo_57 rfl rfl ?_
        refine kt_get (ci := 0) C 0 h0 rfl rfl inlX0 (by decide) wd_80 rfl dX0_joinUpperTwo_58 ?_
        refine kt_iload_n C dX0_joinUpperTwo_61 rfl rfl ?_
        refine kt_iald C h0 rfl hV.1 dX0_joinUpperTwo_62 ?_
        have hV := hV.2
        refine kt_aload_n C dX0_joinUpperTwo_63 rfl rfl ?_
        refine kt_get (ci := 0) C 0 h0 rfl rfl inlX0 (by decide) wd_80 rfl dX0_joinUpperTwo_64 ?_
        refine kt_iload_n C dX0_joinUpperTwo_67 rfl rfl ?_
        refine kt_iald C h0 rfl hV.1 dX0_joinUpperTwo_68 ?_
        have hV := hV.2
        refine kt_iadd C dX0_joinUpperTwo_69 ?_
        refine kt_callN (n := 1) C (w_X7_nearestEnd  hV) C.2.2.2.2.2.1.2.2.2.2.2.1 wd_392 wd_2 wd_393 hd_X7_nearestEnd.2 rfl ⟨Nat.le_of_ble_eq_true rfl, Nat.le_of_ble_eq_true rfl⟩ ⟨Nat.zero_le _, Nat.zero_le _⟩ rfl (Nat.le_of_ble_eq_true rfl) dX0_joinUpperTwo_70 (fun r m4 hE => ?_)
        obtain ⟨v5, rfl, hV⟩ := hE
        refine kt_sti ?_
        refine kt_aload_n C dX0_joinUpperTwo_73 rfl rfl ?_
        refine kt_get (ci := 0) C 1 h0 rfl rfl inlX0 (by decide) wd_81 rfl dX0_joinUpperTwo_74 ?_
        refine kt_iload_n C dX0_joinUpperTwo_77 rfl rfl ?_
        refine kt_iald C h0 rfl hV.1 dX0_joinUpperTwo_78 ?_
        have hV := hV.2
        refine kt_aload_n C dX0_joinUpperTwo_79 rfl rfl ?_
        refine kt_get (ci := 0) C 1 h0 rfl rfl inlX0 (by decide) wd_81 rfl dX0_joinUpperTwo_80 ?_
        refine kt_iload_n C dX0_joinUpperTwo_83 rfl rfl ?_
        refine kt_iald C h0 rfl hV.1 dX0_joinUpperTwo_84 ?_
        have hV := hV.2
        refine kt_iadd C dX0_joinUpperTwo_85 ?_
        refine kt_callN (n := 1) C (w_X7_nearestEnd  hV) C.2.2.2.2.2.1.2.2.2.2.2.1 wd_392 wd_2 wd_393 hd_X7_nearestEnd.2 rfl ⟨Nat.le_of_ble_eq_true rfl, Nat.le_of_ble_eq_true rfl⟩ ⟨Nat.zero_le _, Nat.zero_le _⟩ rfl (Nat.le_of_ble_eq_true rfl) dX0_joinUpperTwo_86 (fun r m6 hE => ?_)
        obtain ⟨v7, rfl, hV⟩ := hE
        refine kt_sti ?_
        refine kt_callV (n := 2) C (w_X0_push h0 hV) h0 rfl rfl wd_373 wd_374 wd_375 wd_70 wd_376 hd_X0_push rfl ⟨Nat.le_of_ble_eq_true rfl, Nat.le_of_ble_eq_true rfl⟩ ⟨Nat.zero_le _, Nat.zero_le _⟩ rfl (Nat.le_of_ble_eq_true rfl) dX0_joinUpperTwo_89 (fun r m8 hE => ?_)
        obtain ⟨v9, rfl, hV⟩ := hE
        refine kt_sti ?_
        exact kt_iret C ⟨_, rfl, hV⟩ dX0_joinUpperTwo_92
      · have hV := hV.2.1 c30d
        refine kt_tableIn C 93 dX0_joinUpperTwo_30 c30a c30b (by rw [c30d]; rfl) rfl ?_
        refine kt_aload_n C dX0_joinUpperTwo_93 rfl rfl ?_
        refine kt_aload_n C dX0_joinUpperTwo_94 rfl rfl ?_
        refine kt_get (ci := 0) C 0 h0 rfl rfl inlX0 (by decide) wd_80 rfl dX0_joinUpperTwo_95 ?_
        refine kt_iload_n C dX0_joinUpperTwo_98 rfl rfl ?_
        refine kt_iald C h0 rfl hV.1 dX0_joinUpperTwo_99 ?_
        have hV := hV.2
        refine kt_aload_n C dX0_joinUpperTwo_100 rfl rfl ?_
        refine kt_get (ci := 0) C 1 h0 rfl rfl inlX0 (by decide) wd_81 rfl dX0_joinUpperTwo_101 ?_
        refine kt_iload_n C dX0_joinUpperTwo_104 rfl rfl ?_
        refine kt_iald C h0 rfl hV.1 dX0_joinUpperTwo_105 ?_
        have hV := hV.2
        refine kt_isub C dX0_joinUpperTwo_106 ?_
        refine kt_callN (n := 1) C (w_X7_nearestEnd  hV) C.2.2.2.2.2.1.2.2.2.2.2.1 wd_392 wd_2 wd_393 hd_X7_nearestEnd.2 rfl ⟨Nat.le_of_ble_eq_true rfl, Nat.le_of_ble_eq_true rfl⟩ ⟨Nat.zero_le _, Nat.zero_le _⟩ rfl (Nat.le_of_ble_eq_true rfl) dX0_joinUpperTwo_107 (fun r m10 hE => ?_)
        obtain ⟨v11, rfl, hV⟩ := hE
        refine kt_sti ?_
        refine kt_aload_n C dX0_joinUpperTwo_110 rfl rfl ?_
        refine kt_get (ci := 0) C 1 h0 rfl rfl inlX0 (by decide) wd_81 rfl dX0_joinUpperTwo_111 ?_
        refine kt_iload_n C dX0_joinUpperTwo_114 rfl rfl ?_
        refine kt_iald C h0 rfl hV.1 dX0_joinUpperTwo_115 ?_
        have hV := hV.2
        refine kt_aload_n C dX0_joinUpperTwo_116 rfl rfl ?_
        refine kt_get (ci := 0) C 0 h0 rfl rfl inlX0 (by decide) wd_80 rfl dX0_joinUpperTwo_117 ?_
        refine kt_iload_n C dX0_joinUpperTwo_120 rfl rfl ?_
        refine kt_iald C h0 rfl hV.1 dX0_joinUpperTwo_121 ?_
        have hV := hV.2
        refine kt_isub C dX0_joinUpperTwo_122 ?_
        refine kt_callN (n := 1) C (w_X7_nearestEnd  hV) C.2.2.2.2.2.1.2.2.2.2.2.1 wd_392 wd_2 wd_393 hd_X7_nearestEnd.2 rfl ⟨Nat.le_of_ble_eq_true rfl, Nat.le_of_ble_eq_true rfl⟩ ⟨Nat.zero_le _, Nat.zero_le _⟩ rfl (Nat.le_of_ble_eq_true rfl) dX0_joinUpperTwo_123 (fun r m12 hE => ?_)
        obtain ⟨v13, rfl, hV⟩ := hE
        refine kt_sti ?_
        refine kt_callV (n := 2) C (w_X0_push h0 hV) h0 rfl rfl wd_373 wd_374 wd_375 wd_70 wd_376 hd_X0_push rfl ⟨Nat.le_of_ble_eq_true rfl, Nat.le_of_ble_eq_true rfl⟩ ⟨Nat.zero_le _, Nat.zero_le _⟩ rfl (Nat.le_of_ble_eq_true rfl) dX0_joinUpperTwo_126 (fun r m14 hE => ?_)
        obtain ⟨v15, rfl, hV⟩ := hE
        refine kt_sti ?_
        exact kt_iret C ⟨_, rfl, hV⟩ dX0_joinUpperTwo_129
      · have hV := hV.2.2 c30d
        refine kt_tableIn C 130 dX0_joinUpperTwo_30 c30a c30b (by rw [c30d]; rfl) rfl ?_
        refine kt_aload_n C dX0_joinUpperTwo_130 rfl rfl ?_
        refine kt_get (ci := 0) C 0 h0 rfl rfl inlX0 (by decide) wd_80 rfl dX0_joinUpperTwo_131 ?_
        refine kt_iload_n C dX0_joinUpperTwo_134 rfl rfl ?_
        refine kt_iald C h0 rfl hV.1 dX0_joinUpperTwo_135 ?_
        have hV := hV.2
        refine kt_aload_n C dX0_joinUpperTwo_136 rfl rfl ?_
        refine kt_get (ci := 0) C 1 h0 rfl rfl inlX0 (by decide) wd_81 rfl dX0_joinUpperTwo_137 ?_
        refine kt_iload_n C dX0_joinUpperTwo_140 rfl rfl ?_
        refine kt_iald C h0 rfl hV.1 dX0_joinUpperTwo_141 ?_
        have hV := hV.2
        refine kt_icmp_gt C 160 dX0_joinUpperTwo_142 rfl (fun c142 => ?_) (fun c142 => ?_)
        · have hV := hV.1 c142
          refine kt_iconst (v := 5) C dX0_joinUpperTwo_160 (by decide) ?_
          exact kt_iret C ⟨_, rfl, hV⟩ dX0_joinUpperTwo_161
        · have hV := hV.2 c142
          refine kt_aload_n C dX0_joinUpperTwo_145 rfl rfl ?_
          refine kt_get (ci := 0) C 0 h0 rfl rfl inlX0 (by decide) wd_80 rfl dX0_joinUpperTwo_146 ?_
          refine kt_iload_n C dX0_joinUpperTwo_149 rfl rfl ?_
          refine kt_iald C h0 rfl hV.1 dX0_joinUpperTwo_150 ?_
          have hV := hV.2
          refine kt_aload_n C dX0_joinUpperTwo_151 rfl rfl ?_
          refine kt_get (ci := 0) C 1 h0 rfl rfl inlX0 (by decide) wd_81 rfl dX0_joinUpperTwo_152 ?_
          refine kt_iload_n C dX0_joinUpperTwo_155 rfl rfl ?_
          refine kt_iald C h0 rfl hV.1 dX0_joinUpperTwo_156 ?_
          have hV := hV.2
          refine kt_icmp_le C 162 dX0_joinUpperTwo_157 rfl (fun c157 => ?_) (fun c157 => ?_)
          · have hV := hV.1 c157
            refine kt_aload_n C dX0_joinUpperTwo_162 rfl rfl ?_
            refine kt_aload_n C dX0_joinUpperTwo_163 rfl rfl ?_
            refine kt_get (ci := 0) C 0 h0 rfl rfl inlX0 (by decide) wd_80 rfl dX0_joinUpperTwo_164 ?_
            refine kt_iload_n C dX0_joinUpperTwo_167 rfl rfl ?_
            refine kt_iald C h0 rfl hV.1 dX0_joinUpperTwo_168 ?_
            have hV := hV.2
            refine kt_aload_n C dX0_joinUpperTwo_169 rfl rfl ?_
            refine kt_get (ci := 0) C 0 h0 rfl rfl inlX0 (by decide) wd_80 rfl dX0_joinUpperTwo_170 ?_
            refine kt_iload_n C dX0_joinUpperTwo_173 rfl rfl ?_
            refine kt_iald C h0 rfl hV.1 dX0_joinUpperTwo_174 ?_
            have hV := hV.2
            refine kt_mmax C wd_388 wd_389 wd_297 wd_390 (Nat.le_of_ble_eq_true rfl) (Nat.le_of_ble_eq_true rfl) (Nat.zero_le _) (Nat.zero_le _) dX0_joinUpperTwo_175 ?_
            refine kt_aload_n C dX0_joinUpperTwo_178 rfl rfl ?_
            refine kt_get (ci := 0) C 1 h0 rfl rfl inlX0 (by decide) wd_81 rfl dX0_joinUpperTwo_179 ?_
            refine kt_iload_n C dX0_joinUpperTwo_182 rfl rfl ?_
            refine kt_iald C h0 rfl hV.1 dX0_joinUpperTwo_183 ?_
            have hV := hV.2
            refine kt_aload_n C dX0_joinUpperTwo_184 rfl rfl ?_
            refine kt_get (ci := 0) C 1 h0 rfl rfl inlX0 (by decide) wd_81 rfl dX0_joinUpperTwo_185 ?_
            refine kt_iload_n C dX0_joinUpperTwo_188 rfl rfl ?_
            refine kt_iald C h0 rfl hV.1 dX0_joinUpperTwo_189 ?_
            have hV := hV.2
            refine kt_mmin C wd_391 wd_296 wd_297 wd_298 (Nat.le_of_ble_eq_true rfl) (Nat.le_of_ble_eq_true rfl) (Nat.zero_le _) (Nat.zero_le _) dX0_joinUpperTwo_190 ?_
            refine kt_callV (n := 2) C (w_X0_push h0 hV) h0 rfl rfl wd_373 wd_374 wd_375 wd_70 wd_376 hd_X0_push rfl ⟨Nat.le_of_ble_eq_true rfl, Nat.le_of_ble_eq_true rfl⟩ ⟨Nat.zero_le _, Nat.zero_le _⟩ rfl (Nat.le_of_ble_eq_true rfl) dX0_joinUpperTwo_193 (fun r m16 hE => ?_)
            obtain ⟨v17, rfl, hV⟩ := hE
            refine kt_sti ?_
            exact kt_iret C ⟨_, rfl, hV⟩ dX0_joinUpperTwo_196
          · have hV := hV.2 c157
            refine kt_iconst (v := 5) C dX0_joinUpperTwo_160 (by decide) ?_
            exact kt_iret C ⟨_, rfl, hV⟩ dX0_joinUpperTwo_161
  · have hV := hV.2 c5
    refine kt_iconst (v := 2) C dX0_joinUpperTwo_8 (by decide) ?_
    exact kt_iret C ⟨_, rfl, hV⟩ dX0_joinUpperTwo_9
theorem hd_X0_divideUpper : yX0_divideUpper.cls = RX0 ∧ yX0_divideUpper.cls ≠ "java/lang/invoke/MethodHandle" ∧ yX0_divideUpper.cls ≠ "java/lang/invoke/VarHandle" ∧ (parseMethodDescriptor yX0_divideUpper.desc).map (fun d => d.parameters.length) = some 1 := by decide +kernel
def V_X0_divideUpper (i0 : Nat) (x1 : Int32) (m : MW) (K : Int32 → MW → Prop) : Prop := ((1 ≤ (m.1.1 16 i0 2) → ((¬ x1 = 0 → (vp_in ((m.1.1 16 i0 2) - 1) 3 ∧ ((¬ x1 = 0) ∧ (vp_in ((m.1.1 16 i0 2) - 1) 3 ∧ ((¬ x1 = 0) ∧ (vp_in ((m.1.1 16 i0 2) - 1) 3 ∧ ∀ m1 : MW, m1 = ((up3 m.1.1 17 i0 (((m.1.1 16 i0 2) - 1)).toNatClampNeg (if ((m.1.1 18 i0 (((m.1.1 16 i0 2) - 1)).toNatClampNeg) / x1) < ((m.1.1 17 i0 (((m.1.1 16 i0 2) - 1)).toNatClampNeg) / x1) then ((m.1.1 18 i0 (((m.1.1 16 i0 2) - 1)).toNatClampNeg) / x1) else ((m.1.1 17 i0 (((m.1.1 16 i0 2) - 1)).toNatClampNeg) / x1)), m.1.2), m.2) → (vp_in ((m.1.1 16 i0 2) - 1) 3 ∧ ∀ m2 : MW, m2 = ((up3 m1.1.1 18 i0 (((m.1.1 16 i0 2) - 1)).toNatClampNeg (if ((m.1.1 17 i0 (((m.1.1 16 i0 2) - 1)).toNatClampNeg) / x1) < ((m.1.1 18 i0 (((m.1.1 16 i0 2) - 1)).toNatClampNeg) / x1) then ((m.1.1 18 i0 (((m.1.1 16 i0 2) - 1)).toNatClampNeg) / x1) else ((m.1.1 17 i0 (((m.1.1 16 i0 2) - 1)).toNatClampNeg) / x1)), m1.1.2), m1.2) → (K 0 m2)))))))) ∧ (x1 = 0 → (K 3 m)))) ∧ (¬ 1 ≤ (m.1.1 16 i0 2) → (K 2 m)))
set_option maxHeartbeats 4000000 in
set_option maxRecDepth 100000 in
theorem w_X0_divideUpper {l : Launch} {g : GG} {i0 : Nat} {x1 : Int32} {m : MW} {K : Int32 → MW → Prop} (h0 : i0 < 4) (hV : V_X0_divideUpper i0 x1 m K) : Ct l yX0_divideUpper cX0_divideUpper 5 (some .int) 1 25 [.ref (gad g 16 i0), .int x1] g m (Ei K) := by
  refine ct_intro RX0 (by decide) rfl (Nat.le_of_ble_eq_true rfl) ?_
  intro p e s mi below meth c C
  unfold V_X0_divideUpper at hV
  refine kt_aload_n C dX0_divideUpper_0 rfl rfl ?_
  refine kt_get (ci := 0) C 2 h0 rfl rfl inlX0 (by decide) wd_82 rfl dX0_divideUpper_1 ?_
  refine kt_iconst (v := 1) C dX0_divideUpper_4 (by decide) ?_
  refine kt_icmp_ge C 10 dX0_divideUpper_5 rfl (fun c5 => ?_) (fun c5 => ?_)
  · have hV := hV.1 c5
    refine kt_iload_n C dX0_divideUpper_10 rfl rfl ?_
    refine kt_if_ne C 16 dX0_divideUpper_11 rfl (fun c11 => ?_) (fun c11 => ?_)
    · have hV := hV.1 c11
      refine kt_aload_n C dX0_divideUpper_16 rfl rfl ?_
      refine kt_get (ci := 0) C 2 h0 rfl rfl inlX0 (by decide) wd_82 rfl dX0_divideUpper_17 ?_
      refine kt_iconst (v := 1) C dX0_divideUpper_20 (by decide) ?_
      refine kt_isub C dX0_divideUpper_21 ?_
      refine kt_istore_n (lv' := [(2, .int _), (0, .ref _), (1, .int _)]) C dX0_divideUpper_22 rfl (by decide) rfl ?_
      refine kt_aload_n C dX0_divideUpper_23 rfl rfl ?_
      refine kt_get (ci := 0) C 0 h0 rfl rfl inlX0 (by decide) wd_80 rfl dX0_divideUpper_24 ?_
      refine kt_iload_n C dX0_divideUpper_27 rfl rfl ?_
      refine kt_iald C h0 rfl hV.1 dX0_divideUpper_28 ?_
      have hV := hV.2
      refine kt_iload_n C dX0_divideUpper_29 rfl rfl ?_
      refine kt_idiv C dX0_divideUpper_30 hV.1 ?_
      have hV := hV.2
      refine kt_istore_n (lv' := [(3, .int _), (2, .int _), (0, .ref _), (1, .int _)]) C dX0_divideUpper_31 rfl (by decide) rfl ?_
      refine kt_aload_n C dX0_divideUpper_32 rfl rfl ?_
      refine kt_get (ci := 0) C 1 h0 rfl rfl inlX0 (by decide) wd_81 rfl dX0_divideUpper_33 ?_
      refine kt_iload_n C dX0_divideUpper_36 rfl rfl ?_
      refine kt_iald C h0 rfl hV.1 dX0_divideUpper_37 ?_
      have hV := hV.2
      refine kt_iload_n C dX0_divideUpper_38 rfl rfl ?_
      refine kt_idiv C dX0_divideUpper_39 hV.1 ?_
      have hV := hV.2
      refine kt_istore (lv' := [(4, .int _), (3, .int _), (2, .int _), (0, .ref _), (1, .int _)]) C dX0_divideUpper_40 (by decide) rfl ?_
      refine kt_aload_n C dX0_divideUpper_42 rfl rfl ?_
      refine kt_get (ci := 0) C 0 h0 rfl rfl inlX0 (by decide) wd_80 rfl dX0_divideUpper_43 ?_
      refine kt_iload_n C dX0_divideUpper_46 rfl rfl ?_
      refine kt_iload_n C dX0_divideUpper_47 rfl rfl ?_
      refine kt_iload C dX0_divideUpper_48 rfl ?_
      refine kt_mmin C wd_391 wd_296 wd_297 wd_298 (Nat.le_of_ble_eq_true rfl) (Nat.le_of_ble_eq_true rfl) (Nat.zero_le _) (Nat.zero_le _) dX0_divideUpper_50 ?_
      refine kt_iast3 C h0 rfl hV.1 (ea_17 _ _ _ _ _) dX0_divideUpper_53 (fun m1 hm1 => ?_)
      have hV := hV.2 m1 hm1
      refine kt_aload_n C dX0_divideUpper_54 rfl rfl ?_
      refine kt_get (ci := 0) C 1 h0 rfl rfl inlX0 (by decide) wd_81 rfl dX0_divideUpper_55 ?_
      refine kt_iload_n C dX0_divideUpper_58 rfl rfl ?_
      refine kt_iload_n C dX0_divideUpper_59 rfl rfl ?_
      refine kt_iload C dX0_divideUpper_60 rfl ?_
      refine kt_mmax C wd_388 wd_389 wd_297 wd_390 (Nat.le_of_ble_eq_true rfl) (Nat.le_of_ble_eq_true rfl) (Nat.zero_le _) (Nat.zero_le _) dX0_divideUpper_62 ?_
      refine kt_iast3 C h0 rfl hV.1 (ea_18 _ _ _ _ _) dX0_divideUpper_65 (fun m2 hm2 => ?_)
      have hV := hV.2 m2 hm2
      refine kt_iconst (v := 0) C dX0_divideUpper_66 (by decide) ?_
      exact kt_iret C ⟨_, rfl, hV⟩ dX0_divideUpper_67
    · have hV := hV.2 c11
      refine kt_iconst (v := 3) C dX0_divideUpper_14 (by decide) ?_
      exact kt_iret C ⟨_, rfl, hV⟩ dX0_divideUpper_15
  · have hV := hV.2 c5
    refine kt_iconst (v := 2) C dX0_divideUpper_8 (by decide) ?_
    exact kt_iret C ⟨_, rfl, hV⟩ dX0_divideUpper_9
theorem hd_X0_testPoint : yX0_testPoint.cls = RX0 ∧ yX0_testPoint.cls ≠ "java/lang/invoke/MethodHandle" ∧ yX0_testPoint.cls ≠ "java/lang/invoke/VarHandle" ∧ (parseMethodDescriptor yX0_testPoint.desc).map (fun d => d.parameters.length) = some 0 := by decide +kernel
def V_X0_testPoint (i0 : Nat) (m : MW) (K : Int32 → MW → Prop) : Prop := ((1 ≤ (m.1.1 16 i0 2) → (vp_in ((m.1.1 16 i0 2) - 1) 3 ∧ (vp_in ((m.1.1 16 i0 2) - 1) 3 ∧ ((¬ (m.1.1 17 i0 (((m.1.1 16 i0 2) - 1)).toNatClampNeg) = (m.1.1 18 i0 (((m.1.1 16 i0 2) - 1)).toNatClampNeg) → (K 4 m)) ∧ ((m.1.1 17 i0 (((m.1.1 16 i0 2) - 1)).toNatClampNeg) = (m.1.1 18 i0 (((m.1.1 16 i0 2) - 1)).toNatClampNeg) → (K 0 m)))))) ∧ (¬ 1 ≤ (m.1.1 16 i0 2) → (K 2 m)))
set_option maxHeartbeats 4000000 in
set_option maxRecDepth 100000 in
theorem w_X0_testPoint {l : Launch} {g : GG} {i0 : Nat} {m : MW} {K : Int32 → MW → Prop} (h0 : i0 < 4) (hV : V_X0_testPoint i0  m K) : Ct l yX0_testPoint cX0_testPoint 1 (some .int) 0 0 [.ref (gad g 16 i0)] g m (Ei K) := by
  refine ct_intro RX0 (by decide) rfl (Nat.le_of_ble_eq_true rfl) ?_
  intro p e s mi below meth c C
  unfold V_X0_testPoint at hV
  refine kt_aload_n C dX0_testPoint_0 rfl rfl ?_
  refine kt_get (ci := 0) C 2 h0 rfl rfl inlX0 (by decide) wd_82 rfl dX0_testPoint_1 ?_
  refine kt_iconst (v := 1) C dX0_testPoint_4 (by decide) ?_
  refine kt_icmp_ge C 10 dX0_testPoint_5 rfl (fun c5 => ?_) (fun c5 => ?_)
  · have hV := hV.1 c5
    refine kt_aload_n C dX0_testPoint_10 rfl rfl ?_
    refine kt_get (ci := 0) C 0 h0 rfl rfl inlX0 (by decide) wd_80 rfl dX0_testPoint_11 ?_
    refine kt_aload_n C dX0_testPoint_14 rfl rfl ?_
    refine kt_get (ci := 0) C 2 h0 rfl rfl inlX0 (by decide) wd_82 rfl dX0_testPoint_15 ?_
    refine kt_iconst (v := 1) C dX0_testPoint_18 (by decide) ?_
    refine kt_isub C dX0_testPoint_19 ?_
    refine kt_iald C h0 rfl hV.1 dX0_testPoint_20 ?_
    have hV := hV.2
    refine kt_aload_n C dX0_testPoint_21 rfl rfl ?_
    refine kt_get (ci := 0) C 1 h0 rfl rfl inlX0 (by decide) wd_81 rfl dX0_testPoint_22 ?_
    refine kt_aload_n C dX0_testPoint_25 rfl rfl ?_
    refine kt_get (ci := 0) C 2 h0 rfl rfl inlX0 (by decide) wd_82 rfl dX0_testPoint_26 ?_
    refine kt_iconst (v := 1) C dX0_testPoint_29 (by decide) ?_
    refine kt_isub C dX0_testPoint_30 ?_
    refine kt_iald C h0 rfl hV.1 dX0_testPoint_31 ?_
    have hV := hV.2
    refine kt_icmp_ne C 39 dX0_testPoint_32 rfl (fun c32 => ?_) (fun c32 => ?_)
    · have hV := hV.1 c32
      refine kt_iconst (v := 4) C dX0_testPoint_39 (by decide) ?_
      exact kt_iret C ⟨_, rfl, hV⟩ dX0_testPoint_40
    · have hV := hV.2 c32
      refine kt_iconst (v := 0) C dX0_testPoint_35 (by decide) ?_
      refine kt_goto C 40 dX0_testPoint_36 rfl ?_
      exact kt_iret C ⟨_, rfl, hV⟩ dX0_testPoint_40
  · have hV := hV.2 c5
    refine kt_iconst (v := 2) C dX0_testPoint_8 (by decide) ?_
    exact kt_iret C ⟨_, rfl, hV⟩ dX0_testPoint_9
theorem hd_X0_keepUpper : yX0_keepUpper.cls = RX0 ∧ yX0_keepUpper.cls ≠ "java/lang/invoke/MethodHandle" ∧ yX0_keepUpper.cls ≠ "java/lang/invoke/VarHandle" ∧ (parseMethodDescriptor yX0_keepUpper.desc).map (fun d => d.parameters.length) = some 1 := by decide +kernel
def V_X0_keepUpper (i0 : Nat) (x1 : Int32) (m : MW) (K : Int32 → MW → Prop) : Prop := (((m.1.1 16 i0 2) < 1 → (K 2 m)) ∧ (¬ (m.1.1 16 i0 2) < 1 → (V_X0_isItem  (x1) m (fun v2 m1 => ((¬ v2 = 0 → (∀ m3 : MW, m3 = ((up3 m1.1.1 16 i0 2 ((m1.1.1 16 i0 2) - 1), m1.1.2), m1.2) → (vp_in x1 3 ∧ ∀ m4 : MW, m4 = ((up3 m3.1.1 19 i0 (x1).toNatClampNeg 1, m3.1.2), m3.2) → (vp_in (m4.1.1 16 i0 2) 3 ∧ (vp_in x1 3 ∧ ∀ m5 : MW, m5 = ((up3 m4.1.1 20 i0 (x1).toNatClampNeg (m4.1.1 17 i0 ((m4.1.1 16 i0 2)).toNatClampNeg), m4.1.2), m4.2) → (vp_in (m5.1.1 16 i0 2) 3 ∧ (vp_in x1 3 ∧ ∀ m6 : MW, m6 = ((up3 m5.1.1 21 i0 (x1).toNatClampNeg (m5.1.1 18 i0 ((m5.1.1 16 i0 2)).toNatClampNeg), m5.1.2), m5.2) → (K 0 m6)))))))) ∧ (v2 = 0 → (K 2 m1)))))))
set_option maxHeartbeats 4000000 in
set_option maxRecDepth 100000 in
theorem w_X0_keepUpper {l : Launch} {g : GG} {i0 : Nat} {x1 : Int32} {m : MW} {K : Int32 → MW → Prop} (h0 : i0 < 4) (hV : V_X0_keepUpper i0 x1 m K) : Ct l yX0_keepUpper cX0_keepUpper 2 (some .int) 1 20 [.ref (gad g 16 i0), .int x1] g m (Ei K) := by
  refine ct_intro RX0 (by decide) rfl (Nat.le_of_ble_eq_true rfl) ?_
  intro p e s mi below meth c C
  unfold V_X0_keepUpper at hV
  refine kt_aload_n C dX0_keepUpper_0 rfl rfl ?_
  refine kt_get (ci := 0) C 2 h0 rfl rfl inlX0 (by decide) wd_82 rfl dX0_keepUpper_1 ?_
  refine kt_iconst (v := 1) C dX0_keepUpper_4 (by decide) ?_
  refine kt_icmp_lt C 15 dX0_keepUpper_5 rfl (fun c5 => ?_) (fun c5 => ?_)
  · have hV := hV.1 c5
    refine kt_iconst (v := 2) C dX0_keepUpper_15 (by decide) ?_
    exact kt_iret C ⟨_, rfl, hV⟩ dX0_keepUpper_16
  · have hV := hV.2 c5
    refine kt_iload_n C dX0_keepUpper_8 rfl rfl ?_
    refine kt_callS (n := 1) C (w_X0_isItem  hV) wd_406 wd_407 wd_70 wd_408 hd_X0_isItem rfl ⟨Nat.le_of_ble_eq_true rfl, Nat.le_of_ble_eq_true rfl⟩ ⟨Nat.zero_le _, Nat.zero_le _⟩ rfl (Nat.le_of_ble_eq_true rfl) dX0_keepUpper_9 (fun r m1 hE => ?_)
    obtain ⟨v2, rfl, hV⟩ := hE
    refine kt_sti ?_
    refine kt_if_ne C 17 dX0_keepUpper_12 rfl (fun c12 => ?_) (fun c12 => ?_)
    · have hV := hV.1 c12
      refine kt_aload_n C dX0_keepUpper_17 rfl rfl ?_
      refine kt_dup C dX0_keepUpper_18 rfl ?_
      refine kt_get (ci := 0) C 2 h0 rfl rfl inlX0 (by decide) wd_82 rfl dX0_keepUpper_19 ?_
      refine kt_iconst (v := 1) C dX0_keepUpper_22 (by decide) ?_
      refine kt_isub C dX0_keepUpper_23 ?_
      refine kt_put3 (ty := .int) (ci := 0) C 2 h0 rfl rfl inlX0 tyX0_ok nmX0 (by decide) wd_82 rfl (by decide +kernel) rfl rfl (Nat.le_of_ble_eq_true rfl) (ep_16_2 _ _ _ _) dX0_keepUpper_24 (fun m3 hm3 => ?_)
      have hV := hV m3 hm3
      refine kt_aload_n C dX0_keepUpper_27 rfl rfl ?_
      refine kt_get (ci := 0) C 3 h0 rfl rfl inlX0 (by decide) wd_83 rfl dX0_keepUpper_28 ?_
      refine kt_iload_n C dX0_keepUpper_31 rfl rfl ?_
      refine kt_iconst (v := 1) C dX0_keepUpper_32 (by decide) ?_
      refine kt_zast3 (v' := 1) C h0 rfl hV.1 rfl (ea_19 _ _ _ _ _) dX0_keepUpper_33 (fun m4 hm4 => ?_)
      have hV := hV.2 m4 hm4
      refine kt_aload_n C dX0_keepUpper_34 rfl rfl ?_
      refine kt_get (ci := 0) C 4 h0 rfl rfl inlX0 (by decide) wd_84 rfl dX0_keepUpper_35 ?_
      refine kt_iload_n C dX0_keepUpper_38 rfl rfl ?_
      refine kt_aload_n C dX0_keepUpper_39 rfl rfl ?_
      refine kt_get (ci := 0) C 0 h0 rfl rfl inlX0 (by decide) wd_80 rfl dX0_keepUpper_40 ?_
      refine kt_aload_n C dX0_keepUpper_43 rfl rfl ?_
      refine kt_get (ci := 0) C 2 h0 rfl rfl inlX0 (by decide) wd_82 rfl dX0_keepUpper_44 ?_
      refine kt_iald C h0 rfl hV.1 dX0_keepUpper_47 ?_
      have hV := hV.2
      refine kt_iast3 C h0 rfl hV.1 (ea_20 _ _ _ _ _) dX0_keepUpper_48 (fun m5 hm5 => ?_)
      have hV := hV.2 m5 hm5
      refine kt_aload_n C dX0_keepUpper_49 rfl rfl ?_
      refine kt_get (ci := 0) C 5 h0 rfl rfl inlX0 (by decide) wd_85 rfl dX0_keepUpper_50 ?_
      refine kt_iload_n C dX0_keepUpper_53 rfl rfl ?_
      refine kt_aload_n C dX0_keepUpper_54 rfl rfl ?_
      refine kt_get (ci := 0) C 1 h0 rfl rfl inlX0 (by decide) wd_81 rfl dX0_keepUpper_55 ?_
      refine kt_aload_n C dX0_keepUpper_58 rfl rfl ?_
      refine kt_get (ci := 0) C 2 h0 rfl rfl inlX0 (by decide) wd_82 rfl dX0_keepUpper_59 ?_
      refine kt_iald C h0 rfl hV.1 dX0_keepUpper_62 ?_
      have hV := hV.2
      refine kt_iast3 C h0 rfl hV.1 (ea_21 _ _ _ _ _) dX0_keepUpper_63 (fun m6 hm6 => ?_)
      have hV := hV.2 m6 hm6
      refine kt_iconst (v := 0) C dX0_keepUpper_64 (by decide) ?_
      exact kt_iret C ⟨_, rfl, hV⟩ dX0_keepUpper_65
    · have hV := hV.2 c12
      refine kt_iconst (v := 2) C dX0_keepUpper_15 (by decide) ?_
      exact kt_iret C ⟨_, rfl, hV⟩ dX0_keepUpper_16
theorem hd_X0_takeItem : yX0_takeItem.cls = RX0 ∧ yX0_takeItem.cls ≠ "java/lang/invoke/MethodHandle" ∧ yX0_takeItem.cls ≠ "java/lang/invoke/VarHandle" ∧ (parseMethodDescriptor yX0_takeItem.desc).map (fun d => d.parameters.length) = some 1 := by decide +kernel
def V_X0_takeItem (i0 : Nat) (x1 : Int32) (m : MW) (K : Int32 → MW → Prop) : Prop := (V_X0_isItem  (x1) m (fun v2 m1 => ((¬ v2 = 0 → (vp_in x1 3 ∧ (((m1.1.1 19 i0 (x1).toNatClampNeg) = 0 → (K 1 m1)) ∧ (¬ (m1.1.1 19 i0 (x1).toNatClampNeg) = 0 → (vp_in x1 3 ∧ (vp_in x1 3 ∧ (V_X0_push i0 ((m1.1.1 20 i0 (x1).toNatClampNeg)) ((m1.1.1 21 i0 (x1).toNatClampNeg)) m1 (fun v4 m3 => (K v4 m3))))))))) ∧ (v2 = 0 → (K 2 m1)))))
set_option maxHeartbeats 4000000 in
set_option maxRecDepth 100000 in
theorem w_X0_takeItem {l : Launch} {g : GG} {i0 : Nat} {x1 : Int32} {m : MW} {K : Int32 → MW → Prop} (h0 : i0 < 4) (hV : V_X0_takeItem i0 x1 m K) : Ct l yX0_takeItem cX0_takeItem 2 (some .int) 1 22 [.ref (gad g 16 i0), .int x1] g m (Ei K) := by
  refine ct_intro RX0 (by decide) rfl (Nat.le_of_ble_eq_true rfl) ?_
  intro p e s mi below meth c C
  unfold V_X0_takeItem at hV
  refine kt_iload_n C dX0_takeItem_0 rfl rfl ?_
  refine kt_callS (n := 1) C (w_X0_isItem  hV) wd_406 wd_407 wd_70 wd_408 hd_X0_isItem rfl ⟨Nat.le_of_ble_eq_true rfl, Nat.le_of_ble_eq_true rfl⟩ ⟨Nat.zero_le _, Nat.zero_le _⟩ rfl (Nat.le_of_ble_eq_true rfl) dX0_takeItem_1 (fun r m1 hE => ?_)
  obtain ⟨v2, rfl, hV⟩ := hE
  refine kt_sti ?_
  refine kt_if_ne C 9 dX0_takeItem_4 rfl (fun c4 => ?_) (fun c4 => ?_)
  · have hV := hV.1 c4
    refine kt_aload_n C dX0_takeItem_9 rfl rfl ?_
    refine kt_get (ci := 0) C 3 h0 rfl rfl inlX0 (by decide) wd_83 rfl dX0_takeItem_10 ?_
    refine kt_iload_n C dX0_takeItem_13 rfl rfl ?_
    refine kt_zald C h0 rfl hV.1 dX0_takeItem_14 ?_
    have hV := hV.2
    refine kt_if_eq C 37 dX0_takeItem_15 rfl (fun c15 => ?_) (fun c15 => ?_)
    · have hV := hV.1 c15
      refine kt_iconst (v := 1) C dX0_takeItem_37 (by decide) ?_
      exact kt_iret C ⟨_, rfl, hV⟩ dX0_takeItem_38
    · have hV := hV.2 c15
      refine kt_aload_n C dX0_takeItem_18 rfl rfl ?_
      refine kt_aload_n C dX0_takeItem_19 rfl rfl ?_
      refine kt_get (ci := 0) C 4 h0 rfl rfl inlX0 (by decide) wd_84 rfl dX0_takeItem_20 ?_
      refine kt_iload_n C dX0_takeItem_23 rfl rfl ?_
      refine kt_iald C h0 rfl hV.1 dX0_takeItem_24 ?_
      have hV := hV.2
      refine kt_aload_n C dX0_takeItem_25 rfl rfl ?_
      refine kt_get (ci := 0) C 5 h0 rfl rfl inlX0 (by decide) wd_85 rfl dX0_takeItem_26 ?_
      refine kt_iload_n C dX0_takeItem_29 rfl rfl ?_
      refine kt_iald C h0 rfl hV.1 dX0_takeItem_30 ?_
      have hV := hV.2
      refine kt_callV (n := 2) C (w_X0_push h0 hV) h0 rfl rfl wd_373 wd_374 wd_375 wd_70 wd_376 hd_X0_push rfl ⟨Nat.le_of_ble_eq_true rfl, Nat.le_of_ble_eq_true rfl⟩ ⟨Nat.zero_le _, Nat.zero_le _⟩ rfl (Nat.le_of_ble_eq_true rfl) dX0_takeItem_31 (fun r m3 hE => ?_)
      obtain ⟨v4, rfl, hV⟩ := hE
      refine kt_sti ?_
      refine kt_goto C 38 dX0_takeItem_34 rfl ?_
      exact kt_iret C ⟨_, rfl, hV⟩ dX0_takeItem_38
  · have hV := hV.2 c4
    refine kt_iconst (v := 2) C dX0_takeItem_7 (by decide) ?_
    exact kt_iret C ⟨_, rfl, hV⟩ dX0_takeItem_8
theorem hd_X0_doAct : yX0_doAct.cls = RX0 ∧ yX0_doAct.cls ≠ "java/lang/invoke/MethodHandle" ∧ yX0_doAct.cls ≠ "java/lang/invoke/VarHandle" ∧ (parseMethodDescriptor yX0_doAct.desc).map (fun d => d.parameters.length) = some 4 := by decide +kernel
def V_X0_doAct (i0 : Nat) (x1 : Int32) (x2 : Int32) (x3 : Int32) (m : MW) (K : Int32 → MW → Prop) : Prop := ((((x1 : Int32).toInt < 0 ∨ 8 < (x1 : Int32).toInt) → (V_X0_takeItem i0 (x2) m (fun v2 m1 => (K v2 m1)))) ∧ ((x1 = 0 → ((x2 ≤ x3 → (V_X0_push i0 (x2) (x3) m (fun v4 m3 => (K v4 m3)))) ∧ (¬ x2 ≤ x3 → (K 5 m)))) ∧ ((x1 = 1 → (V_X0_pushFact i0 (x2) m (fun v6 m5 => (K v6 m5)))) ∧ ((x1 = 2 → (V_X0_joinUpperTwo i0 (x1) m (fun v8 m7 => (K v8 m7)))) ∧ ((x1 = 3 → (V_X0_joinUpperTwo i0 (x1) m (fun v10 m9 => (K v10 m9)))) ∧ ((x1 = 4 → (V_X0_joinUpperTwo i0 (x1) m (fun v12 m11 => (K v12 m11)))) ∧ ((x1 = 5 → (V_X0_joinUpperTwo i0 (x1) m (fun v14 m13 => (K v14 m13)))) ∧ ((x1 = 6 → (V_X0_divideUpper i0 (x2) m (fun v16 m15 => (K v16 m15)))) ∧ ((x1 = 7 → (V_X0_testPoint i0  m (fun v18 m17 => (K v18 m17)))) ∧ (x1 = 8 → (V_X0_keepUpper i0 (x2) m (fun v20 m19 => (K v20 m19)))))))))))))
set_option maxHeartbeats 4000000 in
set_option maxRecDepth 100000 in
theorem w_X0_doAct {l : Launch} {g : GG} {i0 : Nat} {x1 : Int32} {x2 : Int32} {x3 : Int32} {m : MW} {K : Int32 → MW → Prop} (h0 : i0 < 4) (hV : V_X0_doAct i0 x1 x2 x3 m K) : Ct l yX0_doAct cX0_doAct 5 (some .int) 2 49 [.ref (gad g 16 i0), .int x1, .int x2, .int x3, .ref (gad g 1 0)] g m (Ei K) := by
  refine ct_intro RX0 (by decide) rfl (Nat.le_of_ble_eq_true rfl) ?_
  intro p e s mi below meth c C
  unfold V_X0_doAct at hV
  refine kt_iload_n C dX0_doAct_0 rfl rfl ?_
  by_cases c1 : ((x1 : Int32).toInt < 0 ∨ 8 < (x1 : Int32).toInt)
  · have hV := hV.1 c1
    refine kt_tableOut C 99 dX0_doAct_1 c1 rfl ?_
    refine kt_aload_n C dX0_doAct_99 rfl rfl ?_
    refine kt_iload_n C dX0_doAct_100 rfl rfl ?_
    refine kt_callV (n := 1) C (w_X0_takeItem h0 hV) h0 rfl rfl wd_409 wd_410 wd_411 wd_70 wd_412 hd_X0_takeItem rfl ⟨Nat.le_of_ble_eq_true rfl, Nat.le_of_ble_eq_true rfl⟩ ⟨Nat.zero_le _, Nat.zero_le _⟩ rfl (Nat.le_of_ble_eq_true rfl) dX0_doAct_101 (fun r m1 hE => ?_)
    obtain ⟨v2, rfl, hV⟩ := hE
    refine kt_sti ?_
    exact kt_iret C ⟨_, rfl, hV⟩ dX0_doAct_104
  · have hV := hV.2
    have c1a := fun h => c1 (Or.inl h)
    have c1b := fun h => c1 (Or.inr h)
    have c1c := sw_0_8 c1a c1b
    rcases c1c with c1d | c1d | c1d | c1d | c1d | c1d | c1d | c1d | c1d
    · have hV := hV.1 c1d
      refine kt_tableIn C 52 dX0_doAct_1 c1a c1b (by rw [c1d]; rfl) rfl ?_
      refine kt_iload_n C dX0_doAct_52 rfl rfl ?_
      refine kt_iload_n C dX0_doAct_53 rfl rfl ?_
      refine kt_icmp_ge C 61 dX0_doAct_54 rfl (fun c54 => ?_) (fun c54 => ?_)
      · have hV := hV.1 c54
        refine kt_aload_n C dX0_doAct_61 rfl rfl ?_
        refine kt_iload_n C dX0_doAct_62 rfl rfl ?_
        refine kt_iload_n C dX0_doAct_63 rfl rfl ?_
        refine kt_callV (n := 2) C (w_X0_push h0 hV) h0 rfl rfl wd_373 wd_374 wd_375 wd_70 wd_376 hd_X0_push rfl ⟨Nat.le_of_ble_eq_true rfl, Nat.le_of_ble_eq_true rfl⟩ ⟨Nat.zero_le _, Nat.zero_le _⟩ rfl (Nat.le_of_ble_eq_true rfl) dX0_doAct_64 (fun r m3 hE => ?_)
        obtain ⟨v4, rfl, hV⟩ := hE
        refine kt_sti ?_
        exact kt_iret C ⟨_, rfl, hV⟩ dX0_doAct_67
      · have hV := hV.2 c54
        refine kt_iconst (v := 5) C dX0_doAct_57 (by decide) ?_
        refine kt_goto C 67 dX0_doAct_58 rfl ?_
        exact kt_iret C ⟨_, rfl, hV⟩ dX0_doAct_67
    · have hV := hV.2.1 c1d
      refine kt_tableIn C 68 dX0_doAct_1 c1a c1b (by rw [c1d]; rfl) rfl ?_
      refine kt_aload_n C dX0_doAct_68 rfl rfl ?_
      refine kt_iload_n C dX0_doAct_69 rfl rfl ?_
      refine kt_aload C dX0_doAct_70 rfl ?_
      refine kt_callV (n := 2) C (w_X0_pushFact h0 hV) h0 rfl rfl wd_377 wd_378 wd_379 wd_70 wd_380 hd_X0_pushFact rfl ⟨Nat.le_of_ble_eq_true rfl, Nat.le_of_ble_eq_true rfl⟩ ⟨Nat.zero_le _, Nat.zero_le _⟩ rfl (Nat.le_of_ble_eq_true rfl) dX0_doAct_72 (fun r m5 hE => ?_)
      obtain ⟨v6, rfl, hV⟩ := hE
      refine kt_sti ?_
      exact kt_iret C ⟨_, rfl, hV⟩ dX0_doAct_75
    · have hV := hV.2.2.1 c1d
      refine kt_tableIn C 76 dX0_doAct_1 c1a c1b (by rw [c1d]; rfl) rfl ?_
      refine kt_aload_n C dX0_doAct_76 rfl rfl ?_
      refine kt_iload_n C dX0_doAct_77 rfl rfl ?_
      refine kt_callV (n := 1) C (w_X0_joinUpperTwo h0 hV) h0 rfl rfl wd_384 wd_385 wd_386 wd_70 wd_387 hd_X0_joinUpperTwo rfl ⟨Nat.le_of_ble_eq_true rfl, Nat.le_of_ble_eq_true rfl⟩ ⟨Nat.zero_le _, Nat.zero_le _⟩ rfl (Nat.le_of_ble_eq_true rfl) dX0_doAct_78 (fun r m7 hE => ?_)
      obtain ⟨v8, rfl, hV⟩ := hE
      refine kt_sti ?_
      exact kt_iret C ⟨_, rfl, hV⟩ dX0_doAct_81
    · have hV := hV.2.2.2.1 c1d
      refine kt_tableIn C 76 dX0_doAct_1 c1a c1b (by rw [c1d]; rfl) rfl ?_
      refine kt_aload_n C dX0_doAct_76 rfl rfl ?_
      refine kt_iload_n C dX0_doAct_77 rfl rfl ?_
      refine kt_callV (n := 1) C (w_X0_joinUpperTwo h0 hV) h0 rfl rfl wd_384 wd_385 wd_386 wd_70 wd_387 hd_X0_joinUpperTwo rfl ⟨Nat.le_of_ble_eq_true rfl, Nat.le_of_ble_eq_true rfl⟩ ⟨Nat.zero_le _, Nat.zero_le _⟩ rfl (Nat.le_of_ble_eq_true rfl) dX0_doAct_78 (fun r m9 hE => ?_)
      obtain ⟨v10, rfl, hV⟩ := hE
      refine kt_sti ?_
      exact kt_iret C ⟨_, rfl, hV⟩ dX0_doAct_81
    · have hV := hV.2.2.2.2.1 c1d
      refine kt_tableIn C 76 dX0_doAct_1 c1a c1b (by rw [c1d]; rfl) rfl ?_
      refine kt_aload_n C dX0_doAct_76 rfl rfl ?_
      refine kt_iload_n C dX0_doAct_77 rfl rfl ?_
      refine kt_callV (n := 1) C (w_X0_joinUpperTwo h0 hV) h0 rfl rfl wd_384 wd_385 wd_386 wd_70 wd_387 hd_X0_joinUpperTwo rfl ⟨Nat.le_of_ble_eq_true rfl, Nat.le_of_ble_eq_true rfl⟩ ⟨Nat.zero_le _, Nat.zero_le _⟩ rfl (Nat.le_of_ble_eq_true rfl) dX0_doAct_78 (fun r m11 hE => ?_)
      obtain ⟨v12, rfl, hV⟩ := hE
      refine kt_sti ?_
      exact kt_iret C ⟨_, rfl, hV⟩ dX0_doAct_81
    · have hV := hV.2.2.2.2.2.1 c1d
      refine kt_tableIn C 76 dX0_doAct_1 c1a c1b (by rw [c1d]; rfl) rfl ?_
      refine kt_aload_n C dX0_doAct_76 rfl rfl ?_
      refine kt_iload_n C dX0_doAct_77 rfl rfl ?_
      refine kt_callV (n := 1) C (w_X0_joinUpperTwo h0 hV) h0 rfl rfl wd_384 wd_385 wd_386 wd_70 wd_387 hd_X0_joinUpperTwo rfl ⟨Nat.le_of_ble_eq_true rfl, Nat.le_of_ble_eq_true rfl⟩ ⟨Nat.zero_le _, Nat.zero_le _⟩ rfl (Nat.le_of_ble_eq_true rfl) dX0_doAct_78 (fun r m13 hE => ?_)
      obtain ⟨v14, rfl, hV⟩ := hE
      refine kt_sti ?_
      exact kt_iret C ⟨_, rfl, hV⟩ dX0_doAct_81
    · have hV := hV.2.2.2.2.2.2.1 c1d
      refine kt_tableIn C 82 dX0_doAct_1 c1a c1b (by rw [c1d]; rfl) rfl ?_
      refine kt_aload_n C dX0_doAct_82 rfl rfl ?_
      refine kt_iload_n C dX0_doAct_83 rfl rfl ?_
      refine kt_callV (n := 1) C (w_X0_divideUpper h0 hV) h0 rfl rfl wd_394 wd_395 wd_396 wd_70 wd_397 hd_X0_divideUpper rfl ⟨Nat.le_of_ble_eq_true rfl, Nat.le_of_ble_eq_true rfl⟩ ⟨Nat.zero_le _, Nat.zero_le _⟩ rfl (Nat.le_of_ble_eq_true rfl) dX0_doAct_84 (fun r m15 hE => ?_)
      obtain ⟨v16, rfl, hV⟩ := hE
      refine kt_sti ?_
      exact kt_iret C ⟨_, rfl, hV⟩ dX0_doAct_87
    · have hV := hV.2.2.2.2.2.2.2.1 c1d
      refine kt_tableIn C 88 dX0_doAct_1 c1a c1b (by rw [c1d]; rfl) rfl ?_
      refine kt_aload_n C dX0_doAct_88 rfl rfl ?_
      refine kt_callV (n := 0) C (w_X0_testPoint h0 hV) h0 rfl rfl wd_398 wd_399 wd_400 wd_70 wd_401 hd_X0_testPoint rfl ⟨Nat.le_of_ble_eq_true rfl, Nat.le_of_ble_eq_true rfl⟩ ⟨Nat.zero_le _, Nat.zero_le _⟩ rfl (Nat.le_of_ble_eq_true rfl) dX0_doAct_89 (fun r m17 hE => ?_)
      obtain ⟨v18, rfl, hV⟩ := hE
      refine kt_sti ?_
      exact kt_iret C ⟨_, rfl, hV⟩ dX0_doAct_92
    · have hV := hV.2.2.2.2.2.2.2.2 c1d
      refine kt_tableIn C 93 dX0_doAct_1 c1a c1b (by rw [c1d]; rfl) rfl ?_
      refine kt_aload_n C dX0_doAct_93 rfl rfl ?_
      refine kt_iload_n C dX0_doAct_94 rfl rfl ?_
      refine kt_callV (n := 1) C (w_X0_keepUpper h0 hV) h0 rfl rfl wd_402 wd_403 wd_404 wd_70 wd_405 hd_X0_keepUpper rfl ⟨Nat.le_of_ble_eq_true rfl, Nat.le_of_ble_eq_true rfl⟩ ⟨Nat.zero_le _, Nat.zero_le _⟩ rfl (Nat.le_of_ble_eq_true rfl) dX0_doAct_95 (fun r m19 hE => ?_)
      obtain ⟨v20, rfl, hV⟩ := hE
      refine kt_sti ?_
      exact kt_iret C ⟨_, rfl, hV⟩ dX0_doAct_98
theorem hd_X0_giveAnswer : yX0_giveAnswer.cls = RX0 ∧ yX0_giveAnswer.cls ≠ "java/lang/invoke/MethodHandle" ∧ yX0_giveAnswer.cls ≠ "java/lang/invoke/VarHandle" ∧ (parseMethodDescriptor yX0_giveAnswer.desc).map (fun d => d.parameters.length) = some 1 := by decide +kernel
def V_X0_giveAnswer (i0 : Nat) (i1 : Nat) (m : MW) (K : Int32 → MW → Prop) : Prop := ((1 ≤ (m.1.1 16 i0 2) → (vp_in ((m.1.1 16 i0 2) - 1) 3 ∧ (∀ m1 : MW, m1 = ((up3 m.1.1 11 i1 7 (m.1.1 17 i0 (((m.1.1 16 i0 2) - 1)).toNatClampNeg), m.1.2), m.2) → (vp_in ((m1.1.1 16 i0 2) - 1) 3 ∧ (∀ m2 : MW, m2 = ((up3 m1.1.1 11 i1 8 (m1.1.1 18 i0 (((m1.1.1 16 i0 2) - 1)).toNatClampNeg), m1.1.2), m1.2) → (K 0 m2)))))) ∧ (¬ 1 ≤ (m.1.1 16 i0 2) → (K 2 m)))
set_option maxHeartbeats 4000000 in
set_option maxRecDepth 100000 in
theorem w_X0_giveAnswer {l : Launch} {g : GG} {i0 : Nat} {i1 : Nat} {m : MW} {K : Int32 → MW → Prop} (h0 : i0 < 4) (h1 : i1 < 10) (hV : V_X0_giveAnswer i0 i1  m K) : Ct l yX0_giveAnswer cX0_giveAnswer 2 (some .int) 0 0 [.ref (gad g 16 i0), .ref (gad g 11 i1)] g m (Ei K) := by
  refine ct_intro RX0 (by decide) rfl (Nat.le_of_ble_eq_true rfl) ?_
  intro p e s mi below meth c C
  unfold V_X0_giveAnswer at hV
  refine kt_aload_n C dX0_giveAnswer_0 rfl rfl ?_
  refine kt_get (ci := 0) C 2 h0 rfl rfl inlX0 (by decide) wd_82 rfl dX0_giveAnswer_1 ?_
  refine kt_iconst (v := 1) C dX0_giveAnswer_4 (by decide) ?_
  refine kt_icmp_ge C 10 dX0_giveAnswer_5 rfl (fun c5 => ?_) (fun c5 => ?_)
  · have hV := hV.1 c5
    refine kt_aload_n C dX0_giveAnswer_10 rfl rfl ?_
    refine kt_aload_n C dX0_giveAnswer_11 rfl rfl ?_
    refine kt_get (ci := 0) C 0 h0 rfl rfl inlX0 (by decide) wd_80 rfl dX0_giveAnswer_12 ?_
    refine kt_aload_n C dX0_giveAnswer_15 rfl rfl ?_
    refine kt_get (ci := 0) C 2 h0 rfl rfl inlX0 (by decide) wd_82 rfl dX0_giveAnswer_16 ?_
    refine kt_iconst (v := 1) C dX0_giveAnswer_19 (by decide) ?_
    refine kt_isub C dX0_giveAnswer_20 ?_
    refine kt_iald C h0 rfl hV.1 dX0_giveAnswer_21 ?_
    have hV := hV.2
    refine kt_put3 (ty := .int) (ci := 4) C 7 h1 rfl rfl inlX4 tyX4_ok nmX4 (by decide) wd_359 rfl (by decide +kernel) rfl rfl (Nat.le_of_ble_eq_true rfl) (ep_11_7 _ _ _ _) dX0_giveAnswer_22 (fun m1 hm1 => ?_)
    have hV := hV m1 hm1
    refine kt_aload_n C dX0_giveAnswer_25 rfl rfl ?_
    refine kt_aload_n C dX0_giveAnswer_26 rfl rfl ?_
    refine kt_get (ci := 0) C 1 h0 rfl rfl inlX0 (by decide) wd_81 rfl dX0_giveAnswer_27 ?_
    refine kt_aload_n C dX0_giveAnswer_30 rfl rfl ?_
    refine kt_get (ci := 0) C 2 h0 rfl rfl inlX0 (by decide) wd_82 rfl dX0_giveAnswer_31 ?_
    refine kt_iconst (v := 1) C dX0_giveAnswer_34 (by decide) ?_
    refine kt_isub C dX0_giveAnswer_35 ?_
    refine kt_iald C h0 rfl hV.1 dX0_giveAnswer_36 ?_
    have hV := hV.2
    refine kt_put3 (ty := .int) (ci := 4) C 8 h1 rfl rfl inlX4 tyX4_ok nmX4 (by decide) wd_360 rfl (by decide +kernel) rfl rfl (Nat.le_of_ble_eq_true rfl) (ep_11_8 _ _ _ _) dX0_giveAnswer_37 (fun m2 hm2 => ?_)
    have hV := hV m2 hm2
    refine kt_iconst (v := 0) C dX0_giveAnswer_40 (by decide) ?_
    exact kt_iret C ⟨_, rfl, hV⟩ dX0_giveAnswer_41
  · have hV := hV.2 c5
    refine kt_iconst (v := 2) C dX0_giveAnswer_8 (by decide) ?_
    exact kt_iret C ⟨_, rfl, hV⟩ dX0_giveAnswer_9
