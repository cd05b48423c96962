theorem hd_X6_isToBeLost : yX6_isToBeLost.cls = RX6 ∧ yX6_isToBeLost.cls ≠ "java/lang/invoke/MethodHandle" ∧ yX6_isToBeLost.cls ≠ "java/lang/invoke/VarHandle" ∧ (parseMethodDescriptor yX6_isToBeLost.desc).map (fun d => d.parameters.length) = some 1 := by decide +kernel
def V_X6_isToBeLost (i0 : Nat) (x1 : Int32) (m : MW) (K : Int32 → MW → Prop) : Prop := (((m.1.1 15 i0 3) = 0 → (K 0 m)) ∧ (¬ (m.1.1 15 i0 3) = 0 → ((x1 < (m.1.1 15 i0 3) → (K 0 m)) ∧ (¬ x1 < (m.1.1 15 i0 3) → (K 1 m)))))
set_option maxHeartbeats 4000000 in
set_option maxRecDepth 100000 in
theorem w_X6_isToBeLost {l : Launch} {g : GG} {i0 : Nat} {x1 : Int32} {m : MW} {K : Int32 → MW → Prop} (h0 : i0 < 4) (hV : V_X6_isToBeLost i0 x1 m K) : Ct l yX6_isToBeLost cX6_isToBeLost 2 (some .boolean) 0 0 [.ref (gad g 15 i0), .int x1] g m (Ei K) := by
  refine ct_intro RX6 (by decide) rfl (Nat.le_of_ble_eq_true rfl) ?_
  intro p e s mi below meth c C
  unfold V_X6_isToBeLost at hV
  refine kt_aload_n C dX6_isToBeLost_0 rfl rfl ?_
  refine kt_get (ci := 6) C 3 h0 rfl rfl inlX6 (by decide) wd_73 rfl dX6_isToBeLost_1 ?_
  refine kt_if_eq C 19 dX6_isToBeLost_4 rfl (fun c4 => ?_) (fun c4 => ?_)
  · have hV := hV.1 c4
    refine kt_iconst (v := 0) C dX6_isToBeLost_19 (by decide) ?_
    exact kt_zret C rfl ⟨_, rfl, hV⟩ dX6_isToBeLost_20
  · have hV := hV.2 c4
    refine kt_iload_n C dX6_isToBeLost_7 rfl rfl ?_
    refine kt_aload_n C dX6_isToBeLost_8 rfl rfl ?_
    refine kt_get (ci := 6) C 3 h0 rfl rfl inlX6 (by decide) wd_73 rfl dX6_isToBeLost_9 ?_
    refine kt_icmp_lt C 19 dX6_isToBeLost_12 rfl (fun c12 => ?_) (fun c12 => ?_)
    · have hV := hV.1 c12
      refine kt_iconst (v := 0) C dX6_isToBeLost_19 (by decide) ?_
      exact kt_zret C rfl ⟨_, rfl, hV⟩ dX6_isToBeLost_20
    · have hV := hV.2 c12
      refine kt_iconst (v := 1) C dX6_isToBeLost_15 (by decide) ?_
      refine kt_goto C 20 dX6_isToBeLost_16 rfl ?_
      exact kt_zret C rfl ⟨_, rfl, hV⟩ dX6_isToBeLost_20
theorem hd_X6_begin : yX6_begin.cls = RX6 ∧ yX6_begin.cls ≠ "java/lang/invoke/MethodHandle" ∧ yX6_begin.cls ≠ "java/lang/invoke/VarHandle" ∧ (parseMethodDescriptor yX6_begin.desc).map (fun d => d.parameters.length) = some 1 := by decide +kernel
def V_X6_begin (i0 : Nat) (i1 : Nat) (m : MW) (K : MW → Prop) : Prop := (∀ m1 : MW, m1 = ((m.1.1, upr m.1.2 0 i0 (some i1)), m.2) → (∀ m2 : MW, m2 = ((up3 m1.1.1 15 i0 5 0, m1.1.2), m1.2) → (V_X0_empty i0  m2 (fun m3 => (K m3)))))
set_option maxHeartbeats 4000000 in
set_option maxRecDepth 100000 in
theorem w_X6_begin {l : Launch} {g : GG} {i0 : Nat} {i1 : Nat} {m : MW} {K : MW → Prop} (h0 : i0 < 4) (h1 : i1 < 10) (hV : V_X6_begin i0 i1  m K) : Ct l yX6_begin cX6_begin 2 none 1 21 [.ref (gad g 15 i0), .ref (gad g 11 i1)] g m (Ev K) := by
  refine ct_intro RX6 (by decide) rfl (Nat.le_of_ble_eq_true rfl) ?_
  intro p e s mi below meth c C
  unfold V_X6_begin at hV
  refine kt_aload_n C dX6_begin_0 rfl rfl ?_
  refine kt_aload_n C dX6_begin_1 rfl rfl ?_
  refine kt_putr (v := (some i1)) C h0 wd_74 dX6_begin_2 (fun m1 hm1 => ?_)
  have hV := hV m1 hm1
  refine kt_aload_n C dX6_begin_5 rfl rfl ?_
  refine kt_iconst (v := 0) C dX6_begin_6 (by decide) ?_
  refine kt_put3 (ty := .int) (ci := 6) C 5 h0 rfl rfl inlX6 tyX6_ok nmX6 (by decide) wd_75 rfl (by decide +kernel) rfl rfl (Nat.le_of_ble_eq_true rfl) (ep_15_5 _ _ _ _) dX6_begin_7 (fun m2 hm2 => ?_)
  have hV := hV m2 hm2
  refine kt_aload_n C dX6_begin_10 rfl rfl ?_
  refine kt_get (ci := 6) C 1 h0 rfl rfl inlX6 (by decide) wd_71 rfl dX6_begin_11 ?_
  refine kt_callV (n := 0) C (w_X0_empty h0 hV) h0 rfl rfl wd_345 wd_346 wd_347 wd_70 wd_348 hd_X0_empty rfl ⟨Nat.le_of_ble_eq_true rfl, Nat.le_of_ble_eq_true rfl⟩ ⟨Nat.zero_le _, Nat.zero_le _⟩ rfl (Nat.le_of_ble_eq_true rfl) dX6_begin_14 (fun r m3 hE => ?_)
  obtain ⟨rfl, hV⟩ := hE
  refine kt_stv ?_
  exact kt_vret C ⟨rfl, hV⟩ dX6_begin_17
theorem hd_X1_hire : yX1_hire.cls = RX1 ∧ yX1_hire.cls ≠ "java/lang/invoke/MethodHandle" ∧ yX1_hire.cls ≠ "java/lang/invoke/VarHandle" ∧ (parseMethodDescriptor yX1_hire.desc).map (fun d => d.parameters.length) = some 1 := by decide +kernel
def V_X1_hire_7 (n : Nat) (y1 : Int32) (y2 : Int32) (m : MW) (K : MW → Prop) : Prop := match n with
  | 0 => False
  | n + 1 => ((4 ≤ y2 → (K m)) ∧ (¬ 4 ≤ y2 → (vp_in y2 4 ∧ ((y1 ≤ y2 → (∀ m3 : MW, m3 = ((up3 m.1.1 15 (y2).toNatClampNeg 2 0, m.1.2), m.2) → (vp_in y2 4 ∧ (∀ m5 : MW, m5 = ((up3 m3.1.1 15 (y2).toNatClampNeg 3 0, m3.1.2), m3.2) → (V_X1_hire_7 n  (y1) ((y2 + 1)) m5 K))))) ∧ (¬ y1 ≤ y2 → (∀ m6 : MW, m6 = ((up3 m.1.1 15 (y2).toNatClampNeg 2 1, m.1.2), m.2) → (vp_in y2 4 ∧ (∀ m8 : MW, m8 = ((up3 m6.1.1 15 (y2).toNatClampNeg 3 0, m6.1.2), m6.2) → (V_X1_hire_7 n  (y1) ((y2 + 1)) m8 K)))))))))
def V_X1_hire (x1 : Int32) (m : MW) (K : MW → Prop) : Prop := (∀ m1 : MW, m1 = ((up3 m.1.1 8 0 1 x1, m.1.2), m.2) → (∃ k : Nat, V_X1_hire_7 k  (x1) (0) m1 K))
set_option maxHeartbeats 4000000 in
set_option maxRecDepth 100000 in
theorem w_X1_hire_7 {p : Program} {l : Launch} {e : Env} {s : State} {mi : MethodId} {args : Array Value} {below : List Frame} {meth : Method} {c : Code} {g : GG} {K : MW → Prop} (C : Cx p s mi args meth c cX1_hire RX1 3 none g) (n : Nat) : ∀ {y1 : Int32} {y2 : Int32} {m : MW}, V_X1_hire_7 n  y1 y2 m K → TT p l e { frames := 0, cells := 0, slots := 0, locals := 0 } s mi args below meth c 0 0 (MQ below (QE g (Ev K)) args s 0 0 (gA g)) g 3 m 7 [(0, .ref (gad g 8 0)), (1, .int (y1)), (2, .int (y2))] [] := by
  induction n with
  | zero => intros; rename_i hV; exact absurd hV (by simp [V_X1_hire_7])
  | succ n ih =>
    intro y1 y2 m hV
    unfold V_X1_hire_7 at hV
    refine kt_iload_n C dX1_hire_7 rfl rfl ?_
    refine kt_iconst (v := 4) C dX1_hire_8 (by decide) ?_
    refine kt_icmp_ge C 47 dX1_hire_9 rfl (fun c9 => ?_) (fun c9 => ?_)
    · have hV := hV.1 c9
      exact kt_vret C ⟨rfl, hV⟩ dX1_hire_47
    · have hV := hV.2 c9
      refine kt_aload_n C dX1_hire_12 rfl rfl ?_
      refine kt_get (ci := 1) C 0 (by decide) rfl rfl inlX1 (by decide) wd_56 rfl dX1_hire_13 ?_
      refine kt_iload_n C dX1_hire_16 rfl rfl ?_
      have hb2 := vp_lt hV.1
      refine kt_aldW C (by decide) rfl hV.1 dX1_hire_17 ?_
      have hV := hV.2
      refine kt_iload_n C dX1_hire_18 rfl rfl ?_
      refine kt_iload_n C dX1_hire_19 rfl rfl ?_
      refine kt_icmp_ge C 27 dX1_hire_20 rfl (fun c20 => ?_) (fun c20 => ?_)
      · have hV := hV.1 c20
        refine kt_iconst (v := 0) C dX1_hire_27 (by decide) ?_
        refine kt_put3 (ty := .boolean) (ci := 6) C 2 hb2 rfl rfl inlX6 tyX6_ok nmX6 (by decide) wd_90 rfl (by decide +kernel) rfl rfl (Nat.le_of_ble_eq_true rfl) (ep_15_2 _ _ _ _) dX1_hire_28 (fun m3 hm3 => ?_)
        have hV := hV m3 hm3
        refine kt_aload_n C dX1_hire_31 rfl rfl ?_
        refine kt_get (ci := 1) C 0 (by decide) rfl rfl inlX1 (by decide) wd_56 rfl dX1_hire_32 ?_
        refine kt_iload_n C dX1_hire_35 rfl rfl ?_
        have hb4 := vp_lt hV.1
        refine kt_aldW C (by decide) rfl hV.1 dX1_hire_36 ?_
        have hV := hV.2
        refine kt_iconst (v := 0) C dX1_hire_37 (by decide) ?_
        refine kt_put3 (ty := .int) (ci := 6) C 3 hb4 rfl rfl inlX6 tyX6_ok nmX6 (by decide) wd_91 rfl (by decide +kernel) rfl rfl (Nat.le_of_ble_eq_true rfl) (ep_15_3 _ _ _ _) dX1_hire_38 (fun m5 hm5 => ?_)
        have hV := hV m5 hm5
        refine kt_iinc (v := _ + 1) (lv' := [(2, .int _), (0, .ref _), (1, .int _)]) C dX1_hire_41 rfl rfl (by decide) rfl ?_
        refine kt_goto C 7 dX1_hire_44 rfl ?_
        refine kt_pick (lv' := [(0, .ref _), (1, .int _), (2, .int _)]) [1, 2, 0] rfl ?_
        exact ih  hV
      · have hV := hV.2 c20
        refine kt_iconst (v := 1) C dX1_hire_23 (by decide) ?_
        refine kt_goto C 28 dX1_hire_24 rfl ?_
        refine kt_put3 (ty := .boolean) (ci := 6) C 2 hb2 rfl rfl inlX6 tyX6_ok nmX6 (by decide) wd_90 rfl (by decide +kernel) rfl rfl (Nat.le_of_ble_eq_true rfl) (ep_15_2 _ _ _ _) dX1_hire_28 (fun m6 hm6 => ?_)
        have hV := hV m6 hm6
        refine kt_aload_n C dX1_hire_31 rfl rfl ?_
        refine kt_get (ci := 1) C 0 (by decide) rfl rfl inlX1 (by decide) wd_56 rfl dX1_hire_32 ?_
        refine kt_iload_n C dX1_hire_35 rfl rfl ?_
        have hb7 := vp_lt hV.1
        refine kt_aldW C (by decide) rfl hV.1 dX1_hire_36 ?_
        have hV := hV.2
        refine kt_iconst (v := 0) C dX1_hire_37 (by decide) ?_
        refine kt_put3 (ty := .int) (ci := 6) C 3 hb7 rfl rfl inlX6 tyX6_ok nmX6 (by decide) wd_91 rfl (by decide +kernel) rfl rfl (Nat.le_of_ble_eq_true rfl) (ep_15_3 _ _ _ _) dX1_hire_38 (fun m8 hm8 => ?_)
        have hV := hV m8 hm8
        refine kt_iinc (v := _ + 1) (lv' := [(2, .int _), (0, .ref _), (1, .int _)]) C dX1_hire_41 rfl rfl (by decide) rfl ?_
        refine kt_goto C 7 dX1_hire_44 rfl ?_
        refine kt_pick (lv' := [(0, .ref _), (1, .int _), (2, .int _)]) [1, 2, 0] rfl ?_
        exact ih  hV
set_option maxHeartbeats 4000000 in
set_option maxRecDepth 100000 in
theorem w_X1_hire {l : Launch} {g : GG} {x1 : Int32} {m : MW} {K : MW → Prop} (hV : V_X1_hire  x1 m K) : Ct l yX1_hire cX1_hire 3 none 0 0 [.ref (gad g 8 0), .int x1] g m (Ev K) := by
  refine ct_intro RX1 (by decide) rfl (Nat.le_of_ble_eq_true rfl) ?_
  intro p e s mi below meth c C
  unfold V_X1_hire at hV
  refine kt_aload_n C dX1_hire_0 rfl rfl ?_
  refine kt_iload_n C dX1_hire_1 rfl rfl ?_
  refine kt_put3 (ty := .int) (ci := 1) C 1 (by decide) rfl rfl inlX1 tyX1_ok nmX1 (by decide) wd_57 rfl (by decide +kernel) rfl rfl (Nat.le_of_ble_eq_true rfl) (ep_8_1 _ _ _ _) dX1_hire_2 (fun m1 hm1 => ?_)
  have hV := hV m1 hm1
  refine kt_iconst (v := 0) C dX1_hire_5 (by decide) ?_
  refine kt_istore_n (lv' := [(2, .int _), (0, .ref _), (1, .int _)]) C dX1_hire_6 rfl (by decide) rfl ?_
  obtain ⟨k, hV⟩ := hV
  refine kt_pick (lv' := [(0, .ref _), (1, .int _), (2, .int _)]) [1, 2, 0] rfl ?_
  exact w_X1_hire_7 C  k hV
theorem hd_X1_isHere : yX1_isHere.cls = RX1 ∧ yX1_isHere.cls ≠ "java/lang/invoke/MethodHandle" ∧ yX1_isHere.cls ≠ "java/lang/invoke/VarHandle" ∧ (parseMethodDescriptor yX1_isHere.desc).map (fun d => d.parameters.length) = some 1 := by decide +kernel
def V_X1_isHere (x1 : Int32) (m : MW) (K : Int32 → MW → Prop) : Prop := ((x1 < 0 → (K 0 m)) ∧ (¬ x1 < 0 → ((4 ≤ x1 → (K 0 m)) ∧ (¬ 4 ≤ x1 → (vp_in x1 4 ∧ (((m.1.1 15 (x1).toNatClampNeg 2) = 0 → (K 0 m)) ∧ (¬ (m.1.1 15 (x1).toNatClampNeg 2) = 0 → (K 1 m))))))))
set_option maxHeartbeats 4000000 in
set_option maxRecDepth 100000 in
theorem w_X1_isHere {l : Launch} {g : GG} {x1 : Int32} {m : MW} {K : Int32 → MW → Prop} (hV : V_X1_isHere  x1 m K) : Ct l yX1_isHere cX1_isHere 2 (some .boolean) 0 0 [.ref (gad g 8 0), .int x1] g m (Ei K) := by
  refine ct_intro RX1 (by decide) rfl (Nat.le_of_ble_eq_true rfl) ?_
  intro p e s mi below meth c C
  unfold V_X1_isHere at hV
  refine kt_iload_n C dX1_isHere_0 rfl rfl ?_
  refine kt_if_lt C 25 dX1_isHere_1 rfl (fun c1 => ?_) (fun c1 => ?_)
  · have hV := hV.1 c1
    refine kt_iconst (v := 0) C dX1_isHere_25 (by decide) ?_
    exact kt_zret C rfl ⟨_, rfl, hV⟩ dX1_isHere_26
  · have hV := hV.2 c1
    refine kt_iload_n C dX1_isHere_4 rfl rfl ?_
    refine kt_iconst (v := 4) C dX1_isHere_5 (by decide) ?_
    refine kt_icmp_ge C 25 dX1_isHere_6 rfl (fun c6 => ?_) (fun c6 => ?_)
    · have hV := hV.1 c6
      refine kt_iconst (v := 0) C dX1_isHere_25 (by decide) ?_
      exact kt_zret C rfl ⟨_, rfl, hV⟩ dX1_isHere_26
    · have hV := hV.2 c6
      refine kt_aload_n C dX1_isHere_9 rfl rfl ?_
      refine kt_get (ci := 1) C 0 (by decide) rfl rfl inlX1 (by decide) wd_56 rfl dX1_isHere_10 ?_
      refine kt_iload_n C dX1_isHere_13 rfl rfl ?_
      have hb1 := vp_lt hV.1
      refine kt_aldW C (by decide) rfl hV.1 dX1_isHere_14 ?_
      have hV := hV.2
      refine kt_get (ci := 6) C 2 hb1 rfl rfl inlX6 (by decide) wd_90 rfl dX1_isHere_15 ?_
      refine kt_if_eq C 25 dX1_isHere_18 rfl (fun c18 => ?_) (fun c18 => ?_)
      · have hV := hV.1 c18
        refine kt_iconst (v := 0) C dX1_isHere_25 (by decide) ?_
        exact kt_zret C rfl ⟨_, rfl, hV⟩ dX1_isHere_26
      · have hV := hV.2 c18
        refine kt_iconst (v := 1) C dX1_isHere_21 (by decide) ?_
        refine kt_goto C 26 dX1_isHere_22 rfl ?_
        exact kt_zret C rfl ⟨_, rfl, hV⟩ dX1_isHere_26
theorem hd_X1_remove : yX1_remove.cls = RX1 ∧ yX1_remove.cls ≠ "java/lang/invoke/MethodHandle" ∧ yX1_remove.cls ≠ "java/lang/invoke/VarHandle" ∧ (parseMethodDescriptor yX1_remove.desc).map (fun d => d.parameters.length) = some 1 := by decide +kernel
def V_X1_remove (i1 : Nat) (m : MW) (K : MW → Prop) : Prop := (∀ m1 : MW, m1 = ((up3 m.1.1 15 i1 2 0, m.1.2), m.2) → (∀ m2 : MW, m2 = ((up3 m1.1.1 8 0 1 ((m1.1.1 8 0 1) - 1), m1.1.2), m1.2) → (K m2)))
set_option maxHeartbeats 4000000 in
set_option maxRecDepth 100000 in
theorem w_X1_remove {l : Launch} {g : GG} {i1 : Nat} {m : MW} {K : MW → Prop} (h1 : i1 < 4) (hV : V_X1_remove i1  m K) : Ct l yX1_remove cX1_remove 2 none 0 0 [.ref (gad g 8 0), .ref (gad g 15 i1)] g m (Ev K) := by
  refine ct_intro RX1 (by decide) rfl (Nat.le_of_ble_eq_true rfl) ?_
  intro p e s mi below meth c C
  unfold V_X1_remove at hV
  refine kt_aload_n C dX1_remove_0 rfl rfl ?_
  refine kt_iconst (v := 0) C dX1_remove_1 (by decide) ?_
  refine kt_put3 (ty := .boolean) (ci := 6) C 2 h1 rfl rfl inlX6 tyX6_ok nmX6 (by decide) wd_90 rfl (by decide +kernel) rfl rfl (Nat.le_of_ble_eq_true rfl) (ep_15_2 _ _ _ _) dX1_remove_2 (fun m1 hm1 => ?_)
  have hV := hV m1 hm1
  refine kt_aload_n C dX1_remove_5 rfl rfl ?_
  refine kt_dup C dX1_remove_6 rfl ?_
  refine kt_get (ci := 1) C 1 (by decide) rfl rfl inlX1 (by decide) wd_57 rfl dX1_remove_7 ?_
  refine kt_iconst (v := 1) C dX1_remove_10 (by decide) ?_
  refine kt_isub C dX1_remove_11 ?_
  refine kt_put3 (ty := .int) (ci := 1) C 1 (by decide) rfl rfl inlX1 tyX1_ok nmX1 (by decide) wd_57 rfl (by decide +kernel) rfl rfl (Nat.le_of_ble_eq_true rfl) (ep_8_1 _ _ _ _) dX1_remove_12 (fun m2 hm2 => ?_)
  have hV := hV m2 hm2
  exact kt_vret C ⟨rfl, hV⟩ dX1_remove_15
theorem hd_X1_leftAt : yX1_leftAt.cls = RX1 ∧ yX1_leftAt.cls ≠ "java/lang/invoke/MethodHandle" ∧ yX1_leftAt.cls ≠ "java/lang/invoke/VarHandle" ∧ (parseMethodDescriptor yX1_leftAt.desc).map (fun d => d.parameters.length) = some 1 := by decide +kernel
def V_X1_leftAt_4 (n : Nat) (y1 : Int32) (y2 : Int32) (y3 : Int32) (m : MW) (K : Option Nat → MW → Prop) : Prop := match n with
  | 0 => False
  | n + 1 => ((4 ≤ y3 → (K none m)) ∧ (¬ 4 ≤ y3 → (vp_in y3 4 ∧ (((m.1.1 15 (y3).toNatClampNeg 2) = 0 → (V_X1_leftAt_4 n  (y1) (y2) ((y3 + 1)) m K)) ∧ (¬ (m.1.1 15 (y3).toNatClampNeg 2) = 0 → ((¬ y2 = y1 → (V_X1_leftAt_4 n  (y1) ((y2 + 1)) ((y3 + 1)) m K)) ∧ (y2 = y1 → (vp_in y3 4 ∧ (K (some (y3).toNatClampNeg) m)))))))))
def V_X1_leftAt (x1 : Int32) (m : MW) (K : Option Nat → MW → Prop) : Prop := (∃ k : Nat, V_X1_leftAt_4 k  (x1) (0) (0) m K)
set_option maxHeartbeats 4000000 in
set_option maxRecDepth 100000 in
theorem w_X1_leftAt_4 {p : Program} {l : Launch} {e : Env} {s : State} {mi : MethodId} {args : Array Value} {below : List Frame} {meth : Method} {c : Code} {g : GG} {K : Option Nat → MW → Prop} (C : Cx p s mi args meth c cX1_leftAt RX1 4 (some (.object "FactShares$Worker")) g) (n : Nat) : ∀ {y1 : Int32} {y2 : Int32} {y3 : Int32} {m : MW}, V_X1_leftAt_4 n  y1 y2 y3 m K → TT p l e { frames := 0, cells := 0, slots := 0, locals := 0 } s mi args below meth c 0 0 (MQ below (QE g (Er g 15 K)) args s 0 0 (gA g)) g 4 m 4 [(0, .ref (gad g 8 0)), (1, .int (y1)), (2, .int (y2)), (3, .int (y3))] [] := by
  induction n with
  | zero => intros; rename_i hV; exact absurd hV (by simp [V_X1_leftAt_4])
  | succ n ih =>
    intro y1 y2 y3 m hV
    unfold V_X1_leftAt_4 at hV
    refine kt_iload_n C dX1_leftAt_4 rfl rfl ?_
    refine kt_iconst (v := 4) C dX1_leftAt_5 (by decide) ?_
    refine kt_icmp_ge C 42 dX1_leftAt_6 rfl (fun c6 => ?_) (fun c6 => ?_)
    · have hV := hV.1 c6
      refine kt_null C dX1_leftAt_42 ?_
      exact kt_rret C none rfl hV dX1_leftAt_43
    · have hV := hV.2 c6
      refine kt_aload_n C dX1_leftAt_9 rfl rfl ?_
      refine kt_get (ci := 1) C 0 (by decide) rfl rfl inlX1 (by decide) wd_56 rfl dX1_leftAt_10 ?_
      refine kt_iload_n C dX1_leftAt_13 rfl rfl ?_
      have hb1 := vp_lt hV.1
      refine kt_aldW C (by decide) rfl hV.1 dX1_leftAt_14 ?_
      have hV := hV.2
      refine kt_get (ci := 6) C 2 hb1 rfl rfl inlX6 (by decide) wd_90 rfl dX1_leftAt_15 ?_
      refine kt_if_eq C 36 dX1_leftAt_18 rfl (fun c18 => ?_) (fun c18 => ?_)
      · have hV := hV.1 c18
        refine kt_iinc (v := _ + 1) (lv' := [(3, .int _), (0, .ref _), (1, .int _), (2, .int _)]) C dX1_leftAt_36 rfl rfl (by decide) rfl ?_
        refine kt_goto C 4 dX1_leftAt_39 rfl ?_
        refine kt_pick (lv' := [(0, .ref _), (1, .int _), (2, .int _), (3, .int _)]) [1, 2, 3, 0] rfl ?_
        exact ih  hV
      · have hV := hV.2 c18
        refine kt_iload_n C dX1_leftAt_21 rfl rfl ?_
        refine kt_iload_n C dX1_leftAt_22 rfl rfl ?_
        refine kt_icmp_ne C 33 dX1_leftAt_23 rfl (fun c23 => ?_) (fun c23 => ?_)
        · have hV := hV.1 c23
          refine kt_iinc (v := _ + 1) (lv' := [(2, .int _), (0, .ref _), (1, .int _), (3, .int _)]) C dX1_leftAt_33 rfl rfl (by decide) rfl ?_
          refine kt_iinc (v := _ + 1) (lv' := [(3, .int _), (2, .int _), (0, .ref _), (1, .int _)]) C dX1_leftAt_36 rfl rfl (by decide) rfl ?_
          refine kt_goto C 4 dX1_leftAt_39 rfl ?_
          refine kt_pick (lv' := [(0, .ref _), (1, .int _), (2, .int _), (3, .int _)]) [2, 3, 1, 0] rfl ?_
          exact ih  hV
        · have hV := hV.2 c23
          refine kt_aload_n C dX1_leftAt_26 rfl rfl ?_
          refine kt_get (ci := 1) C 0 (by decide) rfl rfl inlX1 (by decide) wd_56 rfl dX1_leftAt_27 ?_
          refine kt_iload_n C dX1_leftAt_30 rfl rfl ?_
          have hb2 := vp_lt hV.1
          refine kt_aldW C (by decide) rfl hV.1 dX1_leftAt_31 ?_
          have hV := hV.2
          exact kt_rret C (some (y3).toNatClampNeg) rfl hV dX1_leftAt_32
set_option maxHeartbeats 4000000 in
set_option maxRecDepth 100000 in
theorem w_X1_leftAt {l : Launch} {g : GG} {x1 : Int32} {m : MW} {K : Option Nat → MW → Prop} (hV : V_X1_leftAt  x1 m K) : Ct l yX1_leftAt cX1_leftAt 4 (some (.object "FactShares$Worker")) 0 0 [.ref (gad g 8 0), .int x1] g m (Er g 15 K) := by
  refine ct_intro RX1 (by decide) rfl (Nat.le_of_ble_eq_true rfl) ?_
  intro p e s mi below meth c C
  unfold V_X1_leftAt at hV
  refine kt_iconst (v := 0) C dX1_leftAt_0 (by decide) ?_
  refine kt_istore_n (lv' := [(2, .int _), (0, .ref _), (1, .int _)]) C dX1_leftAt_1 rfl (by decide) rfl ?_
  refine kt_iconst (v := 0) C dX1_leftAt_2 (by decide) ?_
  refine kt_istore_n (lv' := [(3, .int _), (2, .int _), (0, .ref _), (1, .int _)]) C dX1_leftAt_3 rfl (by decide) rfl ?_
  obtain ⟨k, hV⟩ := hV
  refine kt_pick (lv' := [(0, .ref _), (1, .int _), (2, .int _), (3, .int _)]) [2, 3, 1, 0] rfl ?_
  exact w_X1_leftAt_4 C  k hV
theorem hd_X1_nextToMove : yX1_nextToMove.cls = RX1 ∧ yX1_nextToMove.cls ≠ "java/lang/invoke/MethodHandle" ∧ yX1_nextToMove.cls ≠ "java/lang/invoke/VarHandle" ∧ (parseMethodDescriptor yX1_nextToMove.desc).map (fun d => d.parameters.length) = some 0 := by decide +kernel
def V_X1_nextToMove (m : MW) (K : Option Nat → MW → Prop) : Prop := ((0 < (m.1.1 8 0 1) → (∀ m1 : MW, m1 = ((up3 m.1.1 8 0 2 (((m.1.1 8 0 2) * (1103515245)) + 12345), m.1.2), m.2) → (∀ m2 : MW, m2 = ((up3 m1.1.1 8 0 3 ((m1.1.1 8 0 3) + 1), m1.1.2), m1.2) → ((¬ (m2.1.1 8 0 1) = 0) ∧ (V_X1_leftAt  ((((m2.1.1 8 0 2).toUInt32 >>> (Int32.toUInt32 16 &&& Int32.toUInt32 31)).toInt32 - ((m2.1.1 8 0 2).toUInt32 >>> (Int32.toUInt32 16 &&& Int32.toUInt32 31)).toInt32 / (m2.1.1 8 0 1) * (m2.1.1 8 0 1))) m2 (fun o4 m3 => ((o4 = none → (K none m3)) ∧ (∀ a5 : Nat, o4 = some a5 → a5 < 4 ∧ (∀ m6 : MW, m6 = ((up3 m3.1.1 8 0 4 (nI a5), m3.1.2), m3.2) → (K (some a5) m6)))))))))) ∧ (¬ 0 < (m.1.1 8 0 1) → (K none m)))
set_option maxHeartbeats 4000000 in
set_option maxRecDepth 100000 in
theorem w_X1_nextToMove {l : Launch} {g : GG} {m : MW} {K : Option Nat → MW → Prop} (hV : V_X1_nextToMove   m K) : Ct l yX1_nextToMove cX1_nextToMove 2 (some (.object "FactShares$Worker")) 1 23 [.ref (gad g 8 0)] g m (Er g 15 K) := by
  refine ct_intro RX1 (by decide) rfl (Nat.le_of_ble_eq_true rfl) ?_
  intro p e s mi below meth c C
  unfold V_X1_nextToMove at hV
  refine kt_aload_n C dX1_nextToMove_0 rfl rfl ?_
  refine kt_get (ci := 1) C 1 (by decide) rfl rfl inlX1 (by decide) wd_57 rfl dX1_nextToMove_1 ?_
  refine kt_if_gt C 9 dX1_nextToMove_4 rfl (fun c4 => ?_) (fun c4 => ?_)
  · have hV := hV.1 c4
    refine kt_aload_n C dX1_nextToMove_9 rfl rfl ?_
    refine kt_aload_n C dX1_nextToMove_10 rfl rfl ?_
    refine kt_get (ci := 1) C 2 (by decide) rfl rfl inlX1 (by decide) wd_58 rfl dX1_nextToMove_11 ?_
    refine kt_ldc (v := (1103515245)) C wd_309 dX1_nextToMove_14 ?_
    refine kt_imul C dX1_nextToMove_16 ?_
    refine kt_sipush (v := 12345) C dX1_nextToMove_17 (by decide) ?_
    refine kt_iadd C dX1_nextToMove_20 ?_
    refine kt_put3 (ty := .int) (ci := 1) C 2 (by decide) rfl rfl inlX1 tyX1_ok nmX1 (by decide) wd_58 rfl (by decide +kernel) rfl rfl (Nat.le_of_ble_eq_true rfl) (ep_8_2 _ _ _ _) dX1_nextToMove_21 (fun m1 hm1 => ?_)
    have hV := hV m1 hm1
    refine kt_aload_n C dX1_nextToMove_24 rfl rfl ?_
    refine kt_dup C dX1_nextToMove_25 rfl ?_
    refine kt_get (ci := 1) C 3 (by decide) rfl rfl inlX1 (by decide) wd_59 rfl dX1_nextToMove_26 ?_
    refine kt_iconst (v := 1) C dX1_nextToMove_29 (by decide) ?_
    refine kt_iadd C dX1_nextToMove_30 ?_
    refine kt_put3 (ty := .int) (ci := 1) C 3 (by decide) rfl rfl inlX1 tyX1_ok nmX1 (by decide) wd_59 rfl (by decide +kernel) rfl rfl (Nat.le_of_ble_eq_true rfl) (ep_8_3 _ _ _ _) dX1_nextToMove_31 (fun m2 hm2 => ?_)
    have hV := hV m2 hm2
    refine kt_aload_n C dX1_nextToMove_34 rfl rfl ?_
    refine kt_aload_n C dX1_nextToMove_35 rfl rfl ?_
    refine kt_get (ci := 1) C 2 (by decide) rfl rfl inlX1 (by decide) wd_58 rfl dX1_nextToMove_36 ?_
    refine kt_bipush (v := 16) C dX1_nextToMove_39 (by decide) ?_
    refine kt_iushr C dX1_nextToMove_41 rfl ?_
    refine kt_aload_n C dX1_nextToMove_42 rfl rfl ?_
    refine kt_get (ci := 1) C 1 (by decide) rfl rfl inlX1 (by decide) wd_57 rfl dX1_nextToMove_43 ?_
    refine kt_irem C dX1_nextToMove_46 hV.1 ?_
    have hV := hV.2
    refine kt_callV (n := 1) C (w_X1_leftAt  hV) (by decide) rfl rfl wd_311 wd_312 wd_313 wd_24 wd_314 hd_X1_leftAt rfl ⟨Nat.le_of_ble_eq_true rfl, Nat.le_of_ble_eq_true rfl⟩ ⟨Nat.zero_le _, Nat.zero_le _⟩ rfl (Nat.le_of_ble_eq_true rfl) dX1_nextToMove_47 (fun r m3 hE => ?_)
    obtain ⟨o4, rfl, hV⟩ := hE
    refine kt_sti ?_
    refine kt_refo (fun c47 => ?_) (fun a5 c47 => ?_)
    · have hV := hV.1 c47
      refine kt_astore_nN (lv' := [(1, .null), (0, .ref _)]) C dX1_nextToMove_50 rfl (by decide) rfl ?_
      refine kt_aload_nN C dX1_nextToMove_51 rfl rfl ?_
      refine kt_ifnullN C 63 dX1_nextToMove_52 rfl ?_
      refine kt_aload_nN C dX1_nextToMove_63 rfl rfl ?_
      exact kt_rret C none rfl hV dX1_nextToMove_64
    · have hV := hV.2 a5 c47
      have hba5 := hV.1
      have hV := hV.2
      refine kt_astore_n (lv' := [(1, .ref _), (0, .ref _)]) C dX1_nextToMove_50 rfl (by decide) rfl ?_
      refine kt_aload_n C dX1_nextToMove_51 rfl rfl ?_
      refine kt_ifnull C dX1_nextToMove_52 ?_
      refine kt_aload_n C dX1_nextToMove_55 rfl rfl ?_
      refine kt_aload_n C dX1_nextToMove_56 rfl rfl ?_
      refine kt_get (ci := 6) C 0 hba5 rfl rfl inlX6 (by decide) wd_310 rfl dX1_nextToMove_57 ?_
      refine kt_put3 (ty := .int) (ci := 1) C 4 (by decide) rfl rfl inlX1 tyX1_ok nmX1 (by decide) wd_61 rfl (by decide +kernel) rfl rfl (Nat.le_of_ble_eq_true rfl) (ep_8_4 _ _ _ _) dX1_nextToMove_60 (fun m6 hm6 => ?_)
      have hV := hV m6 hm6
      refine kt_aload_n C dX1_nextToMove_63 rfl rfl ?_
      exact kt_rret C (some a5) rfl hV dX1_nextToMove_64
  · have hV := hV.2 c4
    refine kt_null C dX1_nextToMove_7 ?_
    exact kt_rret C none rfl hV dX1_nextToMove_8
theorem hd_X3_fill : yX3_fill.cls = RX3 ∧ yX3_fill.cls ≠ "java/lang/invoke/MethodHandle" ∧ yX3_fill.cls ≠ "java/lang/invoke/VarHandle" ∧ (parseMethodDescriptor yX3_fill.desc).map (fun d => d.parameters.length) = some 2 := by decide +kernel
def V_X3_fill_22 (n : Nat) (y2 : Int32) (y3 : Int32) (m : MW) (K : MW → Prop) : Prop := match n with
  | 0 => False
  | n + 1 => (((m.1.1 6 0 2) ≤ y3 → (K m)) ∧ (¬ (m.1.1 6 0 2) ≤ y3 → (vp_in y3 10 ∧ (vp_in y3 10 ∧ ∀ m4 : MW, m4 = ((m.1.1, upr m.1.2 1 (y3).toNatClampNeg (some (y3).toNatClampNeg)), m.2) → (V_X3_fill_22 n  (y2) ((y3 + 1)) m4 K)))))
def V_X3_fill (x2 : Int32) (m : MW) (K : MW → Prop) : Prop := (∀ m1 : MW, m1 = ((up3 m.1.1 6 0 1 0, m.1.2), m.2) → (∀ m2 : MW, m2 = ((up3 m1.1.1 6 0 2 (if (if 10 < 10 then 10 else 10) < x2 then (if 10 < 10 then 10 else 10) else x2), m1.1.2), m1.2) → (∃ k : Nat, V_X3_fill_22 k  (x2) (0) m2 K)))
set_option maxHeartbeats 4000000 in
set_option maxRecDepth 100000 in
theorem w_X3_fill_22 {p : Program} {l : Launch} {e : Env} {s : State} {mi : MethodId} {args : Array Value} {below : List Frame} {meth : Method} {c : Code} {g : GG} {K : MW → Prop} (C : Cx p s mi args meth c cX3_fill RX3 4 none g) (n : Nat) : ∀ {y2 : Int32} {y3 : Int32} {m : MW}, V_X3_fill_22 n  y2 y3 m K → TT p l e { frames := 1, cells := 0, slots := 0, locals := 25 } s mi args below meth c 0 0 (MQ below (QE g (Ev K)) args s 0 0 (gA g)) g 4 m 22 [(0, .ref (gad g 6 0)), (1, .ref (gad g 5 0)), (2, .int (y2)), (3, .int (y3))] [] := by
  induction n with
  | zero => intros; rename_i hV; exact absurd hV (by simp [V_X3_fill_22])
  | succ n ih =>
    intro y2 y3 m hV
    unfold V_X3_fill_22 at hV
    refine kt_iload_n C dX3_fill_22 rfl rfl ?_
    refine kt_aload_n C dX3_fill_23 rfl rfl ?_
    refine kt_get (ci := 3) C 2 (by decide) rfl rfl inlX3 (by decide) wd_50 rfl dX3_fill_24 ?_
    refine kt_icmp_ge C 45 dX3_fill_27 rfl (fun c27 => ?_) (fun c27 => ?_)
    · have hV := hV.1 c27
      exact kt_vret C ⟨rfl, hV⟩ dX3_fill_45
    · have hV := hV.2 c27
      refine kt_aload_n C dX3_fill_30 rfl rfl ?_
      refine kt_get (ci := 3) C 0 (by decide) rfl rfl inlX3 (by decide) wd_48 rfl dX3_fill_31 ?_
      refine kt_iload_n C dX3_fill_34 rfl rfl ?_
      refine kt_aload_n C dX3_fill_35 rfl rfl ?_
      refine kt_iload_n C dX3_fill_36 rfl rfl ?_
      have hb3 := vp_lt hV.1
      refine kt_aldS C (by decide) rfl hV.1 dX3_fill_37 ?_
      have hV := hV.2
      refine kt_astS C hb3 hV.1 dX3_fill_38 (fun m4 hm4 => ?_)
      have hV := hV.2 m4 hm4
      refine kt_iinc (v := _ + 1) (lv' := [(3, .int _), (0, .ref _), (1, .ref _), (2, .int _)]) C dX3_fill_39 rfl rfl (by decide) rfl ?_
      refine kt_goto C 22 dX3_fill_42 rfl ?_
      refine kt_pick (lv' := [(0, .ref _), (1, .ref _), (2, .int _), (3, .int _)]) [1, 2, 3, 0] rfl ?_
      exact ih  hV
set_option maxHeartbeats 4000000 in
set_option maxRecDepth 100000 in
theorem w_X3_fill {l : Launch} {g : GG} {x2 : Int32} {m : MW} {K : MW → Prop} (hV : V_X3_fill  x2 m K) : Ct l yX3_fill cX3_fill 4 none 1 25 [.ref (gad g 6 0), .ref (gad g 5 0), .int x2] g m (Ev K) := by
  refine ct_intro RX3 (by decide) rfl (Nat.le_of_ble_eq_true rfl) ?_
  intro p e s mi below meth c C
  unfold V_X3_fill at hV
  refine kt_aload_n C dX3_fill_0 rfl rfl ?_
  refine kt_iconst (v := 0) C dX3_fill_1 (by decide) ?_
  refine kt_put3 (ty := .int) (ci := 3) C 1 (by decide) rfl rfl inlX3 tyX3_ok nmX3 (by decide) wd_49 rfl (by decide +kernel) rfl rfl (Nat.le_of_ble_eq_true rfl) (ep_6_1 _ _ _ _) dX3_fill_2 (fun m1 hm1 => ?_)
  have hV := hV m1 hm1
  refine kt_aload_n C dX3_fill_5 rfl rfl ?_
  refine kt_iload_n C dX3_fill_6 rfl rfl ?_
  refine kt_aload_n C dX3_fill_7 rfl rfl ?_
  refine kt_alen (v := 10) C 2 (by decide) rfl rfl rfl dX3_fill_8 ?_
  refine kt_bipush (v := 10) C dX3_fill_9 (by decide) ?_
  refine kt_mmin C wd_295 wd_296 wd_297 wd_298 (Nat.le_of_ble_eq_true rfl) (Nat.le_of_ble_eq_true rfl) (Nat.zero_le _) (Nat.zero_le _) dX3_fill_11 ?_
  refine kt_mmin C wd_295 wd_296 wd_297 wd_298 (Nat.le_of_ble_eq_true rfl) (Nat.le_of_ble_eq_true rfl) (Nat.zero_le _) (Nat.zero_le _) dX3_fill_14 ?_
  refine kt_put3 (ty := .int) (ci := 3) C 2 (by decide) rfl rfl inlX3 tyX3_ok nmX3 (by decide) wd_50 rfl (by decide +kernel) rfl rfl (Nat.le_of_ble_eq_true rfl) (ep_6_2 _ _ _ _) dX3_fill_17 (fun m2 hm2 => ?_)
  have hV := hV m2 hm2
  refine kt_iconst (v := 0) C dX3_fill_20 (by decide) ?_
  refine kt_istore_n (lv' := [(3, .int _), (0, .ref _), (1, .ref _), (2, .int _)]) C dX3_fill_21 rfl (by decide) rfl ?_
  obtain ⟨k, hV⟩ := hV
  refine kt_pick (lv' := [(0, .ref _), (1, .ref _), (2, .int _), (3, .int _)]) [1, 2, 3, 0] rfl ?_
  exact w_X3_fill_22 C  k hV
theorem hd_X3_takeFirst : yX3_takeFirst.cls = RX3 ∧ yX3_takeFirst.cls ≠ "java/lang/invoke/MethodHandle" ∧ yX3_takeFirst.cls ≠ "java/lang/invoke/VarHandle" ∧ (parseMethodDescriptor yX3_takeFirst.desc).map (fun d => d.parameters.length) = some 0 := by decide +kernel
def V_X3_takeFirst (m : MW) (K : Option Nat → MW → Prop) : Prop := (((m.1.1 6 0 1) < (m.1.1 6 0 2) → (∀ m1 : MW, m1 = ((up3 m.1.1 6 0 1 ((m.1.1 6 0 1) + 1), m.1.2), m.2) → (vp_in ((m1.1.1 6 0 1) - 1) 10 ∧ ((m1.1.2 1 (((m1.1.1 6 0 1) - 1)).toNatClampNeg = none → (K none m1)) ∧ (∀ a3 : Nat, m1.1.2 1 (((m1.1.1 6 0 1) - 1)).toNatClampNeg = some a3 → a3 < 10 ∧ (K (some a3) m1)))))) ∧ (¬ (m.1.1 6 0 1) < (m.1.1 6 0 2) → (K none m)))
set_option maxHeartbeats 4000000 in
set_option maxRecDepth 100000 in
theorem w_X3_takeFirst {l : Launch} {g : GG} {m : MW} {K : Option Nat → MW → Prop} (hV : V_X3_takeFirst   m K) : Ct l yX3_takeFirst cX3_takeFirst 1 (some (.object "FactShares$Share")) 0 0 [.ref (gad g 6 0)] g m (Er g 11 K) := by
  refine ct_intro RX3 (by decide) rfl (Nat.le_of_ble_eq_true rfl) ?_
  intro p e s mi below meth c C
  unfold V_X3_takeFirst at hV
  refine kt_aload_n C dX3_takeFirst_0 rfl rfl ?_
  refine kt_get (ci := 3) C 1 (by decide) rfl rfl inlX3 (by decide) wd_49 rfl dX3_takeFirst_1 ?_
  refine kt_aload_n C dX3_takeFirst_4 rfl rfl ?_
  refine kt_get (ci := 3) C 2 (by decide) rfl rfl inlX3 (by decide) wd_50 rfl dX3_takeFirst_5 ?_
  refine kt_icmp_lt C 13 dX3_takeFirst_8 rfl (fun c8 => ?_) (fun c8 => ?_)
  · have hV := hV.1 c8
    refine kt_aload_n C dX3_takeFirst_13 rfl rfl ?_
    refine kt_dup C dX3_takeFirst_14 rfl ?_
    refine kt_get (ci := 3) C 1 (by decide) rfl rfl inlX3 (by decide) wd_49 rfl dX3_takeFirst_15 ?_
    refine kt_iconst (v := 1) C dX3_takeFirst_18 (by decide) ?_
    refine kt_iadd C dX3_takeFirst_19 ?_
    refine kt_put3 (ty := .int) (ci := 3) C 1 (by decide) rfl rfl inlX3 tyX3_ok nmX3 (by decide) wd_49 rfl (by decide +kernel) rfl rfl (Nat.le_of_ble_eq_true rfl) (ep_6_1 _ _ _ _) dX3_takeFirst_20 (fun m1 hm1 => ?_)
    have hV := hV m1 hm1
    refine kt_aload_n C dX3_takeFirst_23 rfl rfl ?_
    refine kt_get (ci := 3) C 0 (by decide) rfl rfl inlX3 (by decide) wd_48 rfl dX3_takeFirst_24 ?_
    refine kt_aload_n C dX3_takeFirst_27 rfl rfl ?_
    refine kt_get (ci := 3) C 1 (by decide) rfl rfl inlX3 (by decide) wd_49 rfl dX3_takeFirst_28 ?_
    refine kt_iconst (v := 1) C dX3_takeFirst_31 (by decide) ?_
    refine kt_isub C dX3_takeFirst_32 ?_
    have hb2 := vp_lt hV.1
    refine kt_aldS C (by decide) rfl hV.1 dX3_takeFirst_33 ?_
    have hV := hV.2
    refine kt_refo (fun c33 => ?_) (fun a3 c33 => ?_)
    · have hV := hV.1 c33
      exact kt_rret C none rfl hV dX3_takeFirst_34
    · have hV := hV.2 a3 c33
      have hba3 := hV.1
      have hV := hV.2
      exact kt_rret C (some a3) rfl hV dX3_takeFirst_34
  · have hV := hV.2 c8
    refine kt_null C dX3_takeFirst_11 ?_
    exact kt_rret C none rfl hV dX3_takeFirst_12
theorem hd_X3_putInFront : yX3_putInFront.cls = RX3 ∧ yX3_putInFront.cls ≠ "java/lang/invoke/MethodHandle" ∧ yX3_putInFront.cls ≠ "java/lang/invoke/VarHandle" ∧ (parseMethodDescriptor yX3_putInFront.desc).map (fun d => d.parameters.length) = some 1 := by decide +kernel
def V_X3_putInFront (i1 : Nat) (m : MW) (K : MW → Prop) : Prop := (((m.1.1 6 0 1) ≤ 0 → (K m)) ∧ (¬ (m.1.1 6 0 1) ≤ 0 → (∀ m1 : MW, m1 = ((up3 m.1.1 6 0 1 ((m.1.1 6 0 1) - 1), m.1.2), m.2) → (vp_in (m1.1.1 6 0 1) 10 ∧ ∀ m2 : MW, m2 = ((m1.1.1, upr m1.1.2 1 ((m1.1.1 6 0 1)).toNatClampNeg (some i1)), m1.2) → (K m2)))))
set_option maxHeartbeats 4000000 in
set_option maxRecDepth 100000 in
theorem w_X3_putInFront {l : Launch} {g : GG} {i1 : Nat} {m : MW} {K : MW → Prop} (h1 : i1 < 10) (hV : V_X3_putInFront i1  m K) : Ct l yX3_putInFront cX3_putInFront 2 none 0 0 [.ref (gad g 6 0), .ref (gad g 11 i1)] g m (Ev K) := by
  refine ct_intro RX3 (by decide) rfl (Nat.le_of_ble_eq_true rfl) ?_
  intro p e s mi below meth c C
  unfold V_X3_putInFront at hV
  refine kt_aload_n C dX3_putInFront_0 rfl rfl ?_
  refine kt_get (ci := 3) C 1 (by decide) rfl rfl inlX3 (by decide) wd_49 rfl dX3_putInFront_1 ?_
  refine kt_if_le C 27 dX3_putInFront_4 rfl (fun c4 => ?_) (fun c4 => ?_)
  · have hV := hV.1 c4
    exact kt_vret C ⟨rfl, hV⟩ dX3_putInFront_27
  · have hV := hV.2 c4
    refine kt_aload_n C dX3_putInFront_7 rfl rfl ?_
    refine kt_dup C dX3_putInFront_8 rfl ?_
    refine kt_get (ci := 3) C 1 (by decide) rfl rfl inlX3 (by decide) wd_49 rfl dX3_putInFront_9 ?_
    refine kt_iconst (v := 1) C dX3_putInFront_12 (by decide) ?_
    refine kt_isub C dX3_putInFront_13 ?_
    refine kt_put3 (ty := .int) (ci := 3) C 1 (by decide) rfl rfl inlX3 tyX3_ok nmX3 (by decide) wd_49 rfl (by decide +kernel) rfl rfl (Nat.le_of_ble_eq_true rfl) (ep_6_1 _ _ _ _) dX3_putInFront_14 (fun m1 hm1 => ?_)
    have hV := hV m1 hm1
    refine kt_aload_n C dX3_putInFront_17 rfl rfl ?_
    refine kt_get (ci := 3) C 0 (by decide) rfl rfl inlX3 (by decide) wd_48 rfl dX3_putInFront_18 ?_
    refine kt_aload_n C dX3_putInFront_21 rfl rfl ?_
    refine kt_get (ci := 3) C 1 (by decide) rfl rfl inlX3 (by decide) wd_49 rfl dX3_putInFront_22 ?_
    refine kt_aload_n C dX3_putInFront_25 rfl rfl ?_
    refine kt_astS C h1 hV.1 dX3_putInFront_26 (fun m2 hm2 => ?_)
    have hV := hV.2 m2 hm2
    exact kt_vret C ⟨rfl, hV⟩ dX3_putInFront_27
theorem hd_X4_addAct : yX4_addAct.cls = RX4 ∧ yX4_addAct.cls ≠ "java/lang/invoke/MethodHandle" ∧ yX4_addAct.cls ≠ "java/lang/invoke/VarHandle" ∧ (parseMethodDescriptor yX4_addAct.desc).map (fun d => d.parameters.length) = some 3 := by decide +kernel
def V_X4_addAct (i0 : Nat) (x1 : Int32) (x2 : Int32) (x3 : Int32) (m : MW) (K : Int32 → MW → Prop) : Prop := (((m.1.1 11 i0 4) < 8 → (vp_in (m.1.1 11 i0 4) 8 ∧ ∀ m1 : MW, m1 = ((up3 m.1.1 12 i0 ((m.1.1 11 i0 4)).toNatClampNeg x1, m.1.2), m.2) → (vp_in (m1.1.1 11 i0 4) 8 ∧ ∀ m2 : MW, m2 = ((up3 m1.1.1 13 i0 ((m1.1.1 11 i0 4)).toNatClampNeg x2, m1.1.2), m1.2) → (vp_in (m2.1.1 11 i0 4) 8 ∧ ∀ m3 : MW, m3 = ((up3 m2.1.1 14 i0 ((m2.1.1 11 i0 4)).toNatClampNeg x3, m2.1.2), m2.2) → (∀ m4 : MW, m4 = ((up3 m3.1.1 11 i0 4 ((m3.1.1 11 i0 4) + 1), m3.1.2), m3.2) → (K 1 m4)))))) ∧ (¬ (m.1.1 11 i0 4) < 8 → (K 0 m)))
set_option maxHeartbeats 4000000 in
set_option maxRecDepth 100000 in
theorem w_X4_addAct {l : Launch} {g : GG} {i0 : Nat} {x1 : Int32} {x2 : Int32} {x3 : Int32} {m : MW} {K : Int32 → MW → Prop} (h0 : i0 < 10) (hV : V_X4_addAct i0 x1 x2 x3 m K) : Ct l yX4_addAct cX4_addAct 4 (some .boolean) 0 0 [.ref (gad g 11 i0), .int x1, .int x2, .int x3] g m (Ei K) := by
  refine ct_intro RX4 (by decide) rfl (Nat.le_of_ble_eq_true rfl) ?_
  intro p e s mi below meth c C
  unfold V_X4_addAct at hV
  refine kt_aload_n C dX4_addAct_0 rfl rfl ?_
  refine kt_get (ci := 4) C 4 h0 rfl rfl inlX4 (by decide) wd_109 rfl dX4_addAct_1 ?_
  refine kt_bipush (v := 8) C dX4_addAct_4 (by decide) ?_
  refine kt_icmp_lt C 11 dX4_addAct_6 rfl (fun c6 => ?_) (fun c6 => ?_)
  · have hV := hV.1 c6
    refine kt_aload_n C dX4_addAct_11 rfl rfl ?_
    refine kt_get (ci := 4) C 0 h0 rfl rfl inlX4 (by decide) wd_105 rfl dX4_addAct_12 ?_
    refine kt_aload_n C dX4_addAct_15 rfl rfl ?_
    refine kt_get (ci := 4) C 4 h0 rfl rfl inlX4 (by decide) wd_109 rfl dX4_addAct_16 ?_
    refine kt_iload_n C dX4_addAct_19 rfl rfl ?_
    refine kt_iast3 C h0 rfl hV.1 (ea_12 _ _ _ _ _) dX4_addAct_20 (fun m1 hm1 => ?_)
    have hV := hV.2 m1 hm1
    refine kt_aload_n C dX4_addAct_21 rfl rfl ?_
    refine kt_get (ci := 4) C 1 h0 rfl rfl inlX4 (by decide) wd_106 rfl dX4_addAct_22 ?_
    refine kt_aload_n C dX4_addAct_25 rfl rfl ?_
    refine kt_get (ci := 4) C 4 h0 rfl rfl inlX4 (by decide) wd_109 rfl dX4_addAct_26 ?_
    refine kt_iload_n C dX4_addAct_29 rfl rfl ?_
    refine kt_iast3 C h0 rfl hV.1 (ea_13 _ _ _ _ _) dX4_addAct_30 (fun m2 hm2 => ?_)
    have hV := hV.2 m2 hm2
    refine kt_aload_n C dX4_addAct_31 rfl rfl ?_
    refine kt_get (ci := 4) C 2 h0 rfl rfl inlX4 (by decide) wd_107 rfl dX4_addAct_32 ?_
    refine kt_aload_n C dX4_addAct_35 rfl rfl ?_
    refine kt_get (ci := 4) C 4 h0 rfl rfl inlX4 (by decide) wd_109 rfl dX4_addAct_36 ?_
    refine kt_iload_n C dX4_addAct_39 rfl rfl ?_
    refine kt_iast3 C h0 rfl hV.1 (ea_14 _ _ _ _ _) dX4_addAct_40 (fun m3 hm3 => ?_)
    have hV := hV.2 m3 hm3
    refine kt_aload_n C dX4_addAct_41 rfl rfl ?_
    refine kt_dup C dX4_addAct_42 rfl ?_
    refine kt_get (ci := 4) C 4 h0 rfl rfl inlX4 (by decide) wd_109 rfl dX4_addAct_43 ?_
    refine kt_iconst (v := 1) C dX4_addAct_46 (by decide) ?_
    refine kt_iadd C dX4_addAct_47 ?_
    refine kt_put3 (ty := .int) (ci := 4) C 4 h0 rfl rfl inlX4 tyX4_ok nmX4 (by decide) wd_109 rfl (by decide +kernel) rfl rfl (Nat.le_of_ble_eq_true rfl) (ep_11_4 _ _ _ _) dX4_addAct_48 (fun m4 hm4 => ?_)
    have hV := hV m4 hm4
    refine kt_iconst (v := 1) C dX4_addAct_51 (by decide) ?_
    exact kt_zret C rfl ⟨_, rfl, hV⟩ dX4_addAct_52
  · have hV := hV.2 c6
    refine kt_iconst (v := 0) C dX4_addAct_9 (by decide) ?_
    exact kt_zret C rfl ⟨_, rfl, hV⟩ dX4_addAct_10
theorem hd_X5_beginRun : yX5_beginRun.cls = RX5 ∧ yX5_beginRun.cls ≠ "java/lang/invoke/MethodHandle" ∧ yX5_beginRun.cls ≠ "java/lang/invoke/VarHandle" ∧ (parseMethodDescriptor yX5_beginRun.desc).map (fun d => d.parameters.length) = some 0 := by decide +kernel
def V_X5_beginRun (m : MW) (K : MW → Prop) : Prop := (∀ m1 : MW, m1 = ((up3 m.1.1 10 0 0 0, m.1.2), m.2) → (∀ m2 : MW, m2 = ((up3 m1.1.1 10 0 1 (-2000000), m1.1.2), m1.2) → (∀ m3 : MW, m3 = ((up3 m2.1.1 10 0 2 0, m2.1.2), m2.2) → (∀ m4 : MW, m4 = ((up3 m3.1.1 10 0 3 0, m3.1.2), m3.2) → (∀ m5 : MW, m5 = ((up3 m4.1.1 10 0 4 0, m4.1.2), m4.2) → (∀ m6 : MW, m6 = ((up3 m5.1.1 10 0 5 0, m5.1.2), m5.2) → (K m6)))))))
set_option maxHeartbeats 4000000 in
set_option maxRecDepth 100000 in
theorem w_X5_beginRun {l : Launch} {g : GG} {m : MW} {K : MW → Prop} (hV : V_X5_beginRun   m K) : Ct l yX5_beginRun cX5_beginRun 1 none 0 0 [.ref (gad g 10 0)] g m (Ev K) := by
  refine ct_intro RX5 (by decide) rfl (Nat.le_of_ble_eq_true rfl) ?_
  intro p e s mi below meth c C
  unfold V_X5_beginRun at hV
  refine kt_aload_n C dX5_beginRun_0 rfl rfl ?_
  refine kt_iconst (v := 0) C dX5_beginRun_1 (by decide) ?_
  refine kt_put3 (ty := .int) (ci := 5) C 0 (by decide) rfl rfl inlX5 tyX5_ok nmX5 (by decide) wd_95 rfl (by decide +kernel) rfl rfl (Nat.le_of_ble_eq_true rfl) (ep_10_0 _ _ _ _) dX5_beginRun_2 (fun m1 hm1 => ?_)
  have hV := hV m1 hm1
  refine kt_aload_n C dX5_beginRun_5 rfl rfl ?_
  refine kt_ldc (v := (-2000000)) C wd_96 dX5_beginRun_6 ?_
  refine kt_put3 (ty := .int) (ci := 5) C 1 (by decide) rfl rfl inlX5 tyX5_ok nmX5 (by decide) wd_97 rfl (by decide +kernel) rfl rfl (Nat.le_of_ble_eq_true rfl) (ep_10_1 _ _ _ _) dX5_beginRun_8 (fun m2 hm2 => ?_)
  have hV := hV m2 hm2
  refine kt_aload_n C dX5_beginRun_11 rfl rfl ?_
  refine kt_iconst (v := 0) C dX5_beginRun_12 (by decide) ?_
  refine kt_put3 (ty := .int) (ci := 5) C 2 (by decide) rfl rfl inlX5 tyX5_ok nmX5 (by decide) wd_98 rfl (by decide +kernel) rfl rfl (Nat.le_of_ble_eq_true rfl) (ep_10_2 _ _ _ _) dX5_beginRun_13 (fun m3 hm3 => ?_)
  have hV := hV m3 hm3
  refine kt_aload_n C dX5_beginRun_16 rfl rfl ?_
  refine kt_iconst (v := 0) C dX5_beginRun_17 (by decide) ?_
  refine kt_put3 (ty := .int) (ci := 5) C 3 (by decide) rfl rfl inlX5 tyX5_ok nmX5 (by decide) wd_99 rfl (by decide +kernel) rfl rfl (Nat.le_of_ble_eq_true rfl) (ep_10_3 _ _ _ _) dX5_beginRun_18 (fun m4 hm4 => ?_)
  have hV := hV m4 hm4
  refine kt_aload_n C dX5_beginRun_21 rfl rfl ?_
  refine kt_iconst (v := 0) C dX5_beginRun_22 (by decide) ?_
  refine kt_put3 (ty := .int) (ci := 5) C 4 (by decide) rfl rfl inlX5 tyX5_ok nmX5 (by decide) wd_100 rfl (by decide +kernel) rfl rfl (Nat.le_of_ble_eq_true rfl) (ep_10_4 _ _ _ _) dX5_beginRun_23 (fun m5 hm5 => ?_)
  have hV := hV m5 hm5
  refine kt_aload_n C dX5_beginRun_26 rfl rfl ?_
  refine kt_iconst (v := 0) C dX5_beginRun_27 (by decide) ?_
  refine kt_put3 (ty := .int) (ci := 5) C 5 (by decide) rfl rfl inlX5 tyX5_ok nmX5 (by decide) wd_101 rfl (by decide +kernel) rfl rfl (Nat.le_of_ble_eq_true rfl) (ep_10_5 _ _ _ _) dX5_beginRun_28 (fun m6 hm6 => ?_)
  have hV := hV m6 hm6
  exact kt_vret C ⟨rfl, hV⟩ dX5_beginRun_31
theorem hd_X2_put : yX2_put.cls = RX2 ∧ yX2_put.cls ≠ "java/lang/invoke/MethodHandle" ∧ yX2_put.cls ≠ "java/lang/invoke/VarHandle" ∧ (parseMethodDescriptor yX2_put.desc).map (fun d => d.parameters.length) = some 3 := by decide +kernel
def V_X2_put (x1 : Int32) (x2 : Int32) (x3 : Int32) (m : MW) (K : MW → Prop) : Prop := (V_X7_isFact  (x1) m (fun v2 m1 => ((¬ v2 = 0 → (vp_in x1 10 ∧ ∀ m3 : MW, m3 = ((up3 m1.1.1 2 0 (x1).toNatClampNeg 1, m1.1.2), m1.2) → (vp_in x1 10 ∧ ∀ m4 : MW, m4 = ((up3 m3.1.1 3 0 (x1).toNatClampNeg x2, m3.1.2), m3.2) → (vp_in x1 10 ∧ ∀ m5 : MW, m5 = ((up3 m4.1.1 4 0 (x1).toNatClampNeg x3, m4.1.2), m4.2) → (K m5))))) ∧ (v2 = 0 → (K m1)))))
set_option maxHeartbeats 4000000 in
set_option maxRecDepth 100000 in
theorem w_X2_put {l : Launch} {g : GG} {x1 : Int32} {x2 : Int32} {x3 : Int32} {m : MW} {K : MW → Prop} (hV : V_X2_put  x1 x2 x3 m K) : Ct l yX2_put cX2_put 4 none 1 20 [.ref (gad g 1 0), .int x1, .int x2, .int x3] g m (Ev K) := by
  refine ct_intro RX2 (by decide) rfl (Nat.le_of_ble_eq_true rfl) ?_
  intro p e s mi below meth c C
  unfold V_X2_put at hV
  refine kt_iload_n C dX2_put_0 rfl rfl ?_
  refine kt_callN (n := 1) C (w_X7_isFact  hV) C.2.2.2.2.2.1.2.2.2.2.2.2 wd_152 wd_2 wd_153 hd_X7_isFact.2 rfl ⟨Nat.le_of_ble_eq_true rfl, Nat.le_of_ble_eq_true rfl⟩ ⟨Nat.zero_le _, Nat.zero_le _⟩ rfl (Nat.le_of_ble_eq_true rfl) dX2_put_1 (fun r m1 hE => ?_)
  obtain ⟨v2, rfl, hV⟩ := hE
  refine kt_sti ?_
  refine kt_if_ne C 8 dX2_put_4 rfl (fun c4 => ?_) (fun c4 => ?_)
  · have hV := hV.1 c4
    refine kt_aload_n C dX2_put_8 rfl rfl ?_
    refine kt_get (ci := 2) C 0 (by decide) rfl rfl inlX2 (by decide) wd_40 rfl dX2_put_9 ?_
    refine kt_iload_n C dX2_put_12 rfl rfl ?_
    refine kt_iconst (v := 1) C dX2_put_13 (by decide) ?_
    refine kt_zast3 (v' := 1) C (by decide) rfl hV.1 rfl (ea_2 _ _ _ _ _) dX2_put_14 (fun m3 hm3 => ?_)
    have hV := hV.2 m3 hm3
    refine kt_aload_n C dX2_put_15 rfl rfl ?_
    refine kt_get (ci := 2) C 1 (by decide) rfl rfl inlX2 (by decide) wd_42 rfl dX2_put_16 ?_
    refine kt_iload_n C dX2_put_19 rfl rfl ?_
    refine kt_iload_n C dX2_put_20 rfl rfl ?_
    refine kt_iast3 C (by decide) rfl hV.1 (ea_3 _ _ _ _ _) dX2_put_21 (fun m4 hm4 => ?_)
    have hV := hV.2 m4 hm4
    refine kt_aload_n C dX2_put_22 rfl rfl ?_
    refine kt_get (ci := 2) C 2 (by decide) rfl rfl inlX2 (by decide) wd_43 rfl dX2_put_23 ?_
    refine kt_iload_n C dX2_put_26 rfl rfl ?_
    refine kt_iload_n C dX2_put_27 rfl rfl ?_
    refine kt_iast3 C (by decide) rfl hV.1 (ea_4 _ _ _ _ _) dX2_put_28 (fun m5 hm5 => ?_)
    have hV := hV.2 m5 hm5
    exact kt_vret C ⟨rfl, hV⟩ dX2_put_29
  · have hV := hV.2 c4
    exact kt_vret C ⟨rfl, hV⟩ dX2_put_7
theorem hd_X2_boundBelow : yX2_boundBelow.cls = RX2 ∧ yX2_boundBelow.cls ≠ "java/lang/invoke/MethodHandle" ∧ yX2_boundBelow.cls ≠ "java/lang/invoke/VarHandle" ∧ (parseMethodDescriptor yX2_boundBelow.desc).map (fun d => d.parameters.length) = some 1 := by decide +kernel
def V_X2_boundBelow_7 (n : Nat) (y0 : Int32) (y1 : Int32) (m : MW) (K : Int32 → MW → Prop) : Prop := match n with
  | 0 => False
  | n + 1 => ((y1 < 0 → (K (-1000000) m)) ∧ (¬ y1 < 0 → (vp_in y1 9 ∧ ((y0 < (bnd (y1).toNatClampNeg) → (V_X2_boundBelow_7 n  (y0) ((y1 + (-1))) m K)) ∧ (¬ y0 < (bnd (y1).toNatClampNeg) → (vp_in y1 9 ∧ (K (bnd (y1).toNatClampNeg) m)))))))
def V_X2_boundBelow (x0 : Int32) (m : MW) (K : Int32 → MW → Prop) : Prop := (∃ k : Nat, V_X2_boundBelow_7 k  (x0) ((9 - 1)) m K)
set_option maxHeartbeats 4000000 in
set_option maxRecDepth 100000 in
theorem w_X2_boundBelow_7 {p : Program} {l : Launch} {e : Env} {s : State} {mi : MethodId} {args : Array Value} {below : List Frame} {meth : Method} {c : Code} {g : GG} {K : Int32 → MW → Prop} (C : Cx p s mi args meth c cX2_boundBelow RX2 2 (some .int) g) (n : Nat) : ∀ {y0 : Int32} {y1 : Int32} {m : MW}, V_X2_boundBelow_7 n  y0 y1 m K → TT p l e { frames := 0, cells := 0, slots := 0, locals := 0 } s mi args below meth c 0 0 (MQ below (QE g (Ei K)) args s 0 0 (gA g)) g 2 m 7 [(0, .int (y0)), (1, .int (y1))] [] := by
  induction n with
  | zero => intros; rename_i hV; exact absurd hV (by simp [V_X2_boundBelow_7])
  | succ n ih =>
    intro y0 y1 m hV
    unfold V_X2_boundBelow_7 at hV
    refine kt_iload_n C dX2_boundBelow_7 rfl rfl ?_
    refine kt_if_lt C 32 dX2_boundBelow_8 rfl (fun c8 => ?_) (fun c8 => ?_)
    · have hV := hV.1 c8
      refine kt_ldc (v := (-1000000)) C wd_437 dX2_boundBelow_32 ?_
      exact kt_iret C ⟨_, rfl, hV⟩ dX2_boundBelow_34
    · have hV := hV.2 c8
      refine kt_gets C wd_436 dX2_boundBelow_11 ?_
      refine kt_iload_n C dX2_boundBelow_14 rfl rfl ?_
      refine kt_bald C hV.1 dX2_boundBelow_15 ?_
      have hV := hV.2
      refine kt_iload_n C dX2_boundBelow_16 rfl rfl ?_
      refine kt_icmp_gt C 26 dX2_boundBelow_17 rfl (fun c17 => ?_) (fun c17 => ?_)
      · have hV := hV.1 c17
        refine kt_iinc (v := _ + (-1)) (lv' := [(1, .int _), (0, .int _)]) C dX2_boundBelow_26 rfl rfl (by decide) rfl ?_
        refine kt_goto C 7 dX2_boundBelow_29 rfl ?_
        refine kt_pick (lv' := [(0, .int _), (1, .int _)]) [1, 0] rfl ?_
        exact ih  hV
      · have hV := hV.2 c17
        refine kt_gets C wd_436 dX2_boundBelow_20 ?_
        refine kt_iload_n C dX2_boundBelow_23 rfl rfl ?_
        refine kt_bald C hV.1 dX2_boundBelow_24 ?_
        have hV := hV.2
        exact kt_iret C ⟨_, rfl, hV⟩ dX2_boundBelow_25
set_option maxHeartbeats 4000000 in
set_option maxRecDepth 100000 in
theorem w_X2_boundBelow {l : Launch} {g : GG} {x0 : Int32} {m : MW} {K : Int32 → MW → Prop} (hV : V_X2_boundBelow  x0 m K) : Ct l yX2_boundBelow cX2_boundBelow 2 (some .int) 0 0 [.int x0] g m (Ei K) := by
  refine ct_intro RX2 (by decide) rfl (Nat.le_of_ble_eq_true rfl) ?_
  intro p e s mi below meth c C
  unfold V_X2_boundBelow at hV
  refine kt_gets C wd_436 dX2_boundBelow_0 ?_
  refine kt_blen C dX2_boundBelow_3 ?_
  refine kt_iconst (v := 1) C dX2_boundBelow_4 (by decide) ?_
  refine kt_isub C dX2_boundBelow_5 ?_
  refine kt_istore_n (lv' := [(1, .int _), (0, .int _)]) C dX2_boundBelow_6 rfl (by decide) rfl ?_
  obtain ⟨k, hV⟩ := hV
  refine kt_pick (lv' := [(0, .int _), (1, .int _)]) [1, 0] rfl ?_
  exact w_X2_boundBelow_7 C  k hV
theorem hd_X2_boundAbove : yX2_boundAbove.cls = RX2 ∧ yX2_boundAbove.cls ≠ "java/lang/invoke/MethodHandle" ∧ yX2_boundAbove.cls ≠ "java/lang/invoke/VarHandle" ∧ (parseMethodDescriptor yX2_boundAbove.desc).map (fun d => d.parameters.length) = some 1 := by decide +kernel
def V_X2_boundAbove_2 (n : Nat) (y0 : Int32) (y1 : Int32) (m : MW) (K : Int32 → MW → Prop) : Prop := match n with
  | 0 => False
  | n + 1 => ((9 ≤ y1 → (K (1000000) m)) ∧ (¬ 9 ≤ y1 → (vp_in y1 9 ∧ (((bnd (y1).toNatClampNeg) < y0 → (V_X2_boundAbove_2 n  (y0) ((y1 + 1)) m K)) ∧ (¬ (bnd (y1).toNatClampNeg) < y0 → (vp_in y1 9 ∧ (K (bnd (y1).toNatClampNeg) m)))))))
def V_X2_boundAbove (x0 : Int32) (m : MW) (K : Int32 → MW → Prop) : Prop := (∃ k : Nat, V_X2_boundAbove_2 k  (x0) (0) m K)
set_option maxHeartbeats 4000000 in
set_option maxRecDepth 100000 in
theorem w_X2_boundAbove_2 {p : Program} {l : Launch} {e : Env} {s : State} {mi : MethodId} {args : Array Value} {below : List Frame} {meth : Method} {c : Code} {g : GG} {K : Int32 → MW → Prop} (C : Cx p s mi args meth c cX2_boundAbove RX2 2 (some .int) g) (n : Nat) : ∀ {y0 : Int32} {y1 : Int32} {m : MW}, V_X2_boundAbove_2 n  y0 y1 m K → TT p l e { frames := 0, cells := 0, slots := 0, locals := 0 } s mi args below meth c 0 0 (MQ below (QE g (Ei K)) args s 0 0 (gA g)) g 2 m 2 [(0, .int (y0)), (1, .int (y1))] [] := by
  induction n with
  | zero => intros; rename_i hV; exact absurd hV (by simp [V_X2_boundAbove_2])
  | succ n ih =>
    intro y0 y1 m hV
    unfold V_X2_boundAbove_2 at hV
    refine kt_iload_n C dX2_boundAbove_2 rfl rfl ?_
    refine kt_gets C wd_436 dX2_boundAbove_3 ?_
    refine kt_blen C dX2_boundAbove_6 ?_
    refine kt_icmp_ge C 31 dX2_boundAbove_7 rfl (fun c7 => ?_) (fun c7 => ?_)
    · have hV := hV.1 c7
      refine kt_ldc (v := (1000000)) C wd_441 dX2_boundAbove_31 ?_
      exact kt_iret C ⟨_, rfl, hV⟩ dX2_boundAbove_33
    · have hV := hV.2 c7
      refine kt_gets C wd_436 dX2_boundAbove_10 ?_
      refine kt_iload_n C dX2_boundAbove_13 rfl rfl ?_
      refine kt_bald C hV.1 dX2_boundAbove_14 ?_
      have hV := hV.2
      refine kt_iload_n C dX2_boundAbove_15 rfl rfl ?_
      refine kt_icmp_lt C 25 dX2_boundAbove_16 rfl (fun c16 => ?_) (fun c16 => ?_)
      · have hV := hV.1 c16
        refine kt_iinc (v := _ + 1) (lv' := [(1, .int _), (0, .int _)]) C dX2_boundAbove_25 rfl rfl (by decide) rfl ?_
        refine kt_goto C 2 dX2_boundAbove_28 rfl ?_
        refine kt_pick (lv' := [(0, .int _), (1, .int _)]) [1, 0] rfl ?_
        exact ih  hV
      · have hV := hV.2 c16
        refine kt_gets C wd_436 dX2_boundAbove_19 ?_
        refine kt_iload_n C dX2_boundAbove_22 rfl rfl ?_
        refine kt_bald C hV.1 dX2_boundAbove_23 ?_
        have hV := hV.2
        exact kt_iret C ⟨_, rfl, hV⟩ dX2_boundAbove_24
set_option maxHeartbeats 4000000 in
set_option maxRecDepth 100000 in
theorem w_X2_boundAbove {l : Launch} {g : GG} {x0 : Int32} {m : MW} {K : Int32 → MW → Prop} (hV : V_X2_boundAbove  x0 m K) : Ct l yX2_boundAbove cX2_boundAbove 2 (some .int) 0 0 [.int x0] g m (Ei K) := by
  refine ct_intro RX2 (by decide) rfl (Nat.le_of_ble_eq_true rfl) ?_
  intro p e s mi below meth c C
  unfold V_X2_boundAbove at hV
  refine kt_iconst (v := 0) C dX2_boundAbove_0 (by decide) ?_
  refine kt_istore_n (lv' := [(1, .int _), (0, .int _)]) C dX2_boundAbove_1 rfl (by decide) rfl ?_
  obtain ⟨k, hV⟩ := hV
  refine kt_pick (lv' := [(0, .int _), (1, .int _)]) [1, 0] rfl ?_
  exact w_X2_boundAbove_2 C  k hV
theorem hd_X2_join : yX2_join.cls = RX2 ∧ yX2_join.cls ≠ "java/lang/invoke/MethodHandle" ∧ yX2_join.cls ≠ "java/lang/invoke/VarHandle" ∧ (parseMethodDescriptor yX2_join.desc).map (fun d => d.parameters.length) = some 2 := by decide +kernel
def V_X2_join_136 (i1 : Nat) (y2 : Int32) (y3 : Int32) (y4 : Int32) (y5 : Int32) (m : MW) (K : Int32 → MW → Prop) : Prop := ((¬ y4 = 0 → (K 1 m)) ∧ (y4 = 0 → ((y5 = 0 → (K 0 m)) ∧ (¬ y5 = 0 → (K 1 m)))))
def V_X2_join_107 (i1 : Nat) (y2 : Int32) (y3 : Int32) (y4 : Int32) (y5 : Int32) (m : MW) (K : Int32 → MW → Prop) : Prop := ((y5 = 0 → (V_X2_join_136 i1 (y2) (y3) (y4) (y5) m K)) ∧ (¬ y5 = 0 → ((y2 = 0 → (vp_in y3 10 ∧ ∀ m3 : MW, m3 = ((up3 m.1.1 4 0 (y3).toNatClampNeg (m.1.1 11 i1 8), m.1.2), m.2) → (V_X2_join_136 i1 (y2) (y3) (y4) (y5) m3 K))) ∧ (¬ y2 = 0 → (V_X2_boundAbove  ((m.1.1 11 i1 8)) m (fun v5 m4 => (vp_in y3 10 ∧ ∀ m6 : MW, m6 = ((up3 m4.1.1 4 0 (y3).toNatClampNeg v5, m4.1.2), m4.2) → (V_X2_join_136 i1 (y2) (y3) (y4) (y5) m6 K))))))))
def V_X2_join_76 (i1 : Nat) (y2 : Int32) (y3 : Int32) (y4 : Int32) (z0 : Int32) (m : MW) (K : Int32 → MW → Prop) : Prop := ((y4 = 0 → (V_X2_join_107 i1 (y2) (y3) (y4) (z0) m K)) ∧ (¬ y4 = 0 → ((y2 = 0 → (vp_in y3 10 ∧ ∀ m7 : MW, m7 = ((up3 m.1.1 3 0 (y3).toNatClampNeg (m.1.1 11 i1 7), m.1.2), m.2) → (V_X2_join_107 i1 (y2) (y3) (y4) (z0) m7 K))) ∧ (¬ y2 = 0 → (V_X2_boundBelow  ((m.1.1 11 i1 7)) m (fun v9 m8 => (vp_in y3 10 ∧ ∀ m10 : MW, m10 = ((up3 m8.1.1 3 0 (y3).toNatClampNeg v9, m8.1.2), m8.2) → (V_X2_join_107 i1 (y2) (y3) (y4) (z0) m10 K))))))))
def V_X2_join_56 (i1 : Nat) (y2 : Int32) (y3 : Int32) (z0 : Int32) (m : MW) (K : Int32 → MW → Prop) : Prop := (vp_in y3 10 ∧ (((m.1.1 11 i1 8) ≤ (m.1.1 4 0 (y3).toNatClampNeg) → (V_X2_join_76 i1 (y2) (y3) (z0) (0) m K)) ∧ (¬ (m.1.1 11 i1 8) ≤ (m.1.1 4 0 (y3).toNatClampNeg) → (V_X2_join_76 i1 (y2) (y3) (z0) (1) m K))))
def V_X2_join (i1 : Nat) (x2 : Int32) (m : MW) (K : Int32 → MW → Prop) : Prop := (V_X7_isFact  ((m.1.1 11 i1 3)) m (fun v2 m1 => ((¬ v2 = 0 → (vp_in (m.1.1 11 i1 3) 10 ∧ ((¬ (m1.1.1 2 0 ((m.1.1 11 i1 3)).toNatClampNeg) = 0 → (vp_in (m.1.1 11 i1 3) 10 ∧ (((m1.1.1 3 0 ((m.1.1 11 i1 3)).toNatClampNeg) ≤ (m1.1.1 11 i1 7) → (V_X2_join_56 i1 (x2) ((m.1.1 11 i1 3)) (0) m1 K)) ∧ (¬ (m1.1.1 3 0 ((m.1.1 11 i1 3)).toNatClampNeg) ≤ (m1.1.1 11 i1 7) → (V_X2_join_56 i1 (x2) ((m.1.1 11 i1 3)) (1) m1 K))))) ∧ ((m1.1.1 2 0 ((m.1.1 11 i1 3)).toNatClampNeg) = 0 → (V_X2_put  ((m.1.1 11 i1 3)) ((m1.1.1 11 i1 7)) ((m1.1.1 11 i1 8)) m1 (fun m11 => (K 1 m11))))))) ∧ (v2 = 0 → (K 0 m1)))))
set_option maxHeartbeats 4000000 in
set_option maxRecDepth 100000 in
theorem w_X2_join_136 {p : Program} {l : Launch} {e : Env} {s : State} {mi : MethodId} {args : Array Value} {below : List Frame} {meth : Method} {c : Code} {g : GG} {i1 : Nat} {K : Int32 → MW → Prop} (C : Cx p s mi args meth c cX2_join RX2 6 (some .boolean) g) (h1 : i1 < 10) {y2 : Int32} {y3 : Int32} {y4 : Int32} {y5 : Int32} {m : MW} (hV : V_X2_join_136 i1 y2 y3 y4 y5 m K) : TT p l e { frames := 2, cells := 0, slots := 0, locals := 43 } s mi args below meth c 0 0 (MQ below (QE g (Ei K)) args s 0 0 (gA g)) g 6 m 136 [(0, .ref (gad g 1 0)), (1, .ref (gad g 11 i1)), (2, .int (y2)), (3, .int (y3)), (4, .int (y4)), (5, .int (y5))] [] := by
  unfold V_X2_join_136 at hV
  refine kt_iload C dX2_join_136 rfl ?_
  refine kt_if_ne C 146 dX2_join_138 rfl (fun c138 => ?_) (fun c138 => ?_)
  · have hV := hV.1 c138
    refine kt_iconst (v := 1) C dX2_join_146 (by decide) ?_
    refine kt_goto C 151 dX2_join_147 rfl ?_
    exact kt_zret C rfl ⟨_, rfl, hV⟩ dX2_join_151
  · have hV := hV.2 c138
    refine kt_iload C dX2_join_141 rfl ?_
    refine kt_if_eq C 150 dX2_join_143 rfl (fun c143 => ?_) (fun c143 => ?_)
    · have hV := hV.1 c143
      refine kt_iconst (v := 0) C dX2_join_150 (by decide) ?_
      exact kt_zret C rfl ⟨_, rfl, hV⟩ dX2_join_151
    · have hV := hV.2 c143
      refine kt_iconst (v := 1) C dX2_join_146 (by decide) ?_
      refine kt_goto C 151 dX2_join_147 rfl ?_
      exact kt_zret C rfl ⟨_, rfl, hV⟩ dX2_join_151
set_option maxHeartbeats 4000000 in
set_option maxRecDepth 100000 in
theorem w_X2_join_107 {p : Program} {l : Launch} {e : Env} {s : State} {mi : MethodId} {args : Array Value} {below : List Frame} {meth : Method} {c : Code} {g : GG} {i1 : Nat} {K : Int32 → MW → Prop} (C : Cx p s mi args meth c cX2_join RX2 6 (some .boolean) g) (h1 : i1 < 10) {y2 : Int32} {y3 : Int32} {y4 : Int32} {y5 : Int32} {m : MW} (hV : V_X2_join_107 i1 y2 y3 y4 y5 m K) : TT p l e { frames := 2, cells := 0, slots := 0, locals := 43 } s mi args below meth c 0 0 (MQ below (QE g (Ei K)) args s 0 0 (gA g)) g 6 m 107 [(0, .ref (gad g 1 0)), (1, .ref (gad g 11 i1)), (2, .int (y2)), (3, .int (y3)), (4, .int (y4)), (5, .int (y5))] [] := by
  unfold V_X2_join_107 at hV
  refine kt_iload C dX2_join_107 rfl ?_
  refine kt_if_eq C 136 dX2_join_109 rfl (fun c109 => ?_) (fun c109 => ?_)
  · have hV := hV.1 c109
    refine kt_pick (lv' := [(0, .ref _), (1, .ref _), (2, .int _), (3, .int _), (4, .int _), (5, .int _)]) [0, 1, 2, 3, 4, 5] rfl ?_
    exact w_X2_join_136 C h1 hV
  · have hV := hV.2 c109
    refine kt_aload_n C dX2_join_112 rfl rfl ?_
    refine kt_get (ci := 2) C 2 (by decide) rfl rfl inlX2 (by decide) wd_43 rfl dX2_join_113 ?_
    refine kt_iload_n C dX2_join_116 rfl rfl ?_
    refine kt_iload_n C dX2_join_117 rfl rfl ?_
    refine kt_if_eq C 131 dX2_join_118 rfl (fun c118 => ?_) (fun c118 => ?_)
    · have hV := hV.1 c118
      refine kt_aload_n C dX2_join_131 rfl rfl ?_
      refine kt_get (ci := 4) C 8 h1 rfl rfl inlX4 (by decide) wd_431 rfl dX2_join_132 ?_
      refine kt_iast3 C (by decide) rfl hV.1 (ea_4 _ _ _ _ _) dX2_join_135 (fun m3 hm3 => ?_)
      have hV := hV.2 m3 hm3
      refine kt_pick (lv' := [(0, .ref _), (1, .ref _), (2, .int _), (3, .int _), (4, .int _), (5, .int _)]) [0, 1, 2, 3, 4, 5] rfl ?_
      exact w_X2_join_136 C h1 hV
    · have hV := hV.2 c118
      refine kt_aload_n C dX2_join_121 rfl rfl ?_
      refine kt_get (ci := 4) C 8 h1 rfl rfl inlX4 (by decide) wd_431 rfl dX2_join_122 ?_
      refine kt_callS (n := 1) C (w_X2_boundAbove  hV) wd_438 wd_439 wd_14 wd_440 hd_X2_boundAbove rfl ⟨Nat.le_of_ble_eq_true rfl, Nat.le_of_ble_eq_true rfl⟩ ⟨Nat.zero_le _, Nat.zero_le _⟩ rfl (Nat.le_of_ble_eq_true rfl) dX2_join_125 (fun r m4 hE => ?_)
      obtain ⟨v5, rfl, hV⟩ := hE
      refine kt_sti ?_
      refine kt_goto C 135 dX2_join_128 rfl ?_
      refine kt_iast3 C (by decide) rfl hV.1 (ea_4 _ _ _ _ _) dX2_join_135 (fun m6 hm6 => ?_)
      have hV := hV.2 m6 hm6
      refine kt_pick (lv' := [(0, .ref _), (1, .ref _), (2, .int _), (3, .int _), (4, .int _), (5, .int _)]) [0, 1, 2, 3, 4, 5] rfl ?_
      exact w_X2_join_136 C h1 hV
set_option maxHeartbeats 4000000 in
set_option maxRecDepth 100000 in
theorem w_X2_join_76 {p : Program} {l : Launch} {e : Env} {s : State} {mi : MethodId} {args : Array Value} {below : List Frame} {meth : Method} {c : Code} {g : GG} {i1 : Nat} {K : Int32 → MW → Prop} (C : Cx p s mi args meth c cX2_join RX2 6 (some .boolean) g) (h1 : i1 < 10) {y2 : Int32} {y3 : Int32} {y4 : Int32} {z0 : Int32} {m : MW} (hV : V_X2_join_76 i1 y2 y3 y4 z0 m K) : TT p l e { frames := 2, cells := 0, slots := 0, locals := 43 } s mi args below meth c 0 0 (MQ below (QE g (Ei K)) args s 0 0 (gA g)) g 6 m 76 [(0, .ref (gad g 1 0)), (1, .ref (gad g 11 i1)), (2, .int (y2)), (3, .int (y3)), (4, .int (y4))] [.int (z0)] := by
  unfold V_X2_join_76 at hV
  refine kt_istore (lv' := [(5, .int _), (0, .ref _), (1, .ref _), (2, .int _), (3, .int _), (4, .int _)]) C dX2_join_76 (by decide) rfl ?_
  refine kt_iload C dX2_join_78 rfl ?_
  refine kt_if_eq C 107 dX2_join_80 rfl (fun c80 => ?_) (fun c80 => ?_)
  · have hV := hV.1 c80
    refine kt_pick (lv' := [(0, .ref _), (1, .ref _), (2, .int _), (3, .int _), (4, .int _), (5, .int _)]) [1, 2, 3, 4, 5, 0] rfl ?_
    exact w_X2_join_107 C h1 hV
  · have hV := hV.2 c80
    refine kt_aload_n C dX2_join_83 rfl rfl ?_
    refine kt_get (ci := 2) C 1 (by decide) rfl rfl inlX2 (by decide) wd_42 rfl dX2_join_84 ?_
    refine kt_iload_n C dX2_join_87 rfl rfl ?_
    refine kt_iload_n C dX2_join_88 rfl rfl ?_
    refine kt_if_eq C 102 dX2_join_89 rfl (fun c89 => ?_) (fun c89 => ?_)
    · have hV := hV.1 c89
      refine kt_aload_n C dX2_join_102 rfl rfl ?_
      refine kt_get (ci := 4) C 7 h1 rfl rfl inlX4 (by decide) wd_430 rfl dX2_join_103 ?_
      refine kt_iast3 C (by decide) rfl hV.1 (ea_3 _ _ _ _ _) dX2_join_106 (fun m7 hm7 => ?_)
      have hV := hV.2 m7 hm7
      refine kt_pick (lv' := [(0, .ref _), (1, .ref _), (2, .int _), (3, .int _), (4, .int _), (5, .int _)]) [1, 2, 3, 4, 5, 0] rfl ?_
      exact w_X2_join_107 C h1 hV
    · have hV := hV.2 c89
      refine kt_aload_n C dX2_join_92 rfl rfl ?_
      refine kt_get (ci := 4) C 7 h1 rfl rfl inlX4 (by decide) wd_430 rfl dX2_join_93 ?_
      refine kt_callS (n := 1) C (w_X2_boundBelow  hV) wd_433 wd_434 wd_14 wd_435 hd_X2_boundBelow rfl ⟨Nat.le_of_ble_eq_true rfl, Nat.le_of_ble_eq_true rfl⟩ ⟨Nat.zero_le _, Nat.zero_le _⟩ rfl (Nat.le_of_ble_eq_true rfl) dX2_join_96 (fun r m8 hE => ?_)
      obtain ⟨v9, rfl, hV⟩ := hE
      refine kt_sti ?_
      refine kt_goto C 106 dX2_join_99 rfl ?_
      refine kt_iast3 C (by decide) rfl hV.1 (ea_3 _ _ _ _ _) dX2_join_106 (fun m10 hm10 => ?_)
      have hV := hV.2 m10 hm10
      refine kt_pick (lv' := [(0, .ref _), (1, .ref _), (2, .int _), (3, .int _), (4, .int _), (5, .int _)]) [1, 2, 3, 4, 5, 0] rfl ?_
      exact w_X2_join_107 C h1 hV
set_option maxHeartbeats 4000000 in
set_option maxRecDepth 100000 in
theorem w_X2_join_56 {p : Program} {l : Launch} {e : Env} {s : State} {mi : MethodId} {args : Array Value} {below : List Frame} {meth : Method} {c : Code} {g : GG} {i1 : Nat} {K : Int32 → MW → Prop} (C : Cx p s mi args meth c cX2_join RX2 6 (some .boolean) g) (h1 : i1 < 10) {y2 : Int32} {y3 : Int32} {z0 : Int32} {m : MW} (hV : V_X2_join_56 i1 y2 y3 z0 m K) : TT p l e { frames := 2, cells := 0, slots := 0, locals := 43 } s mi args below meth c 0 0 (MQ below (QE g (Ei K)) args s 0 0 (gA g)) g 6 m 56 [(0, .ref (gad g 1 0)), (1, .ref (gad g 11 i1)), (2, .int (y2)), (3, .int (y3))] [.int (z0)] := by
  unfold V_X2_join_56 at hV
  refine kt_istore (lv' := [(4, .int _), (0, .ref _), (1, .ref _), (2, .int _), (3, .int _)]) C dX2_join_56 (by decide) rfl ?_
  refine kt_aload_n C dX2_join_58 rfl rfl ?_
  refine kt_get (ci := 4) C 8 h1 rfl rfl inlX4 (by decide) wd_431 rfl dX2_join_59 ?_
  refine kt_aload_n C dX2_join_62 rfl rfl ?_
  refine kt_get (ci := 2) C 2 (by decide) rfl rfl inlX2 (by decide) wd_43 rfl dX2_join_63 ?_
  refine kt_iload_n C dX2_join_66 rfl rfl ?_
  refine kt_iald C (by decide) rfl hV.1 dX2_join_67 ?_
  have hV := hV.2
  refine kt_icmp_le C 75 dX2_join_68 rfl (fun c68 => ?_) (fun c68 => ?_)
  · have hV := hV.1 c68
    refine kt_iconst (v := 0) C dX2_join_75 (by decide) ?_
    refine kt_pick (lv' := [(0, .ref _), (1, .ref _), (2, .int _), (3, .int _), (4, .int _)]) [1, 2, 3, 4, 0] rfl ?_
    exact w_X2_join_76 C h1 hV
  · have hV := hV.2 c68
    refine kt_iconst (v := 1) C dX2_join_71 (by decide) ?_
    refine kt_goto C 76 dX2_join_72 rfl ?_
    refine kt_pick (lv' := [(0, .ref _), (1, .ref _), (2, .int _), (3, .int _), (4, .int _)]) [1, 2, 3, 4, 0] rfl ?_
    exact w_X2_join_76 C h1 hV
set_option maxHeartbeats 4000000 in
set_option maxRecDepth 100000 in
theorem w_X2_join {l : Launch} {g : GG} {i1 : Nat} {x2 : Int32} {m : MW} {K : Int32 → MW → Prop} (h1 : i1 < 10) (hV : V_X2_join i1 x2 m K) : Ct l yX2_join cX2_join 6 (some .boolean) 2 43 [.ref (gad g 1 0), .ref (gad g 11 i1), .int x2] g m (Ei K) := by
  refine ct_intro RX2 (by decide) rfl (Nat.le_of_ble_eq_true rfl) ?_
  intro p e s mi below meth c C
  unfold V_X2_join at hV
  refine kt_aload_n C dX2_join_0 rfl rfl ?_
  refine kt_get (ci := 4) C 3 h1 rfl rfl inlX4 (by decide) wd_429 rfl dX2_join_1 ?_
  refine kt_istore_n (lv' := [(3, .int _), (0, .ref _), (1, .ref _), (2, .int _)]) C dX2_join_4 rfl (by decide) rfl ?_
  refine kt_iload_n C dX2_join_5 rfl rfl ?_
  refine kt_callN (n := 1) C (w_X7_isFact  hV) C.2.2.2.2.2.1.2.2.2.2.2.2 wd_152 wd_2 wd_153 hd_X7_isFact.2 rfl ⟨Nat.le_of_ble_eq_true rfl, Nat.le_of_ble_eq_true rfl⟩ ⟨Nat.zero_le _, Nat.zero_le _⟩ rfl (Nat.le_of_ble_eq_true rfl) dX2_join_6 (fun r m1 hE => ?_)
  obtain ⟨v2, rfl, hV⟩ := hE
  refine kt_sti ?_
  refine kt_if_ne C 14 dX2_join_9 rfl (fun c9 => ?_) (fun c9 => ?_)
  · have hV := hV.1 c9
    refine kt_aload_n C dX2_join_14 rfl rfl ?_
    refine kt_get (ci := 2) C 0 (by decide) rfl rfl inlX2 (by decide) wd_40 rfl dX2_join_15 ?_
    refine kt_iload_n C dX2_join_18 rfl rfl ?_
    refine kt_zald C (by decide) rfl hV.1 dX2_join_19 ?_
    have hV := hV.2
    refine kt_if_ne C 38 dX2_join_20 rfl (fun c20 => ?_) (fun c20 => ?_)
    · have hV := hV.1 c20
      refine kt_aload_n C dX2_join_38 rfl rfl ?_
      refine kt_get (ci := 4) C 7 h1 rfl rfl inlX4 (by decide) wd_430 rfl dX2_join_39 ?_
      refine kt_aload_n C dX2_join_42 rfl rfl ?_
      refine kt_get (ci := 2) C 1 (by decide) rfl rfl inlX2 (by decide) wd_42 rfl dX2_join_43 ?_
      refine kt_iload_n C dX2_join_46 rfl rfl ?_
      refine kt_iald C (by decide) rfl hV.1 dX2_join_47 ?_
      have hV := hV.2
      refine kt_icmp_ge C 55 dX2_join_48 rfl (fun c48 => ?_) (fun c48 => ?_)
      · have hV := hV.1 c48
        refine kt_iconst (v := 0) C dX2_join_55 (by decide) ?_
        refine kt_pick (lv' := [(0, .ref _), (1, .ref _), (2, .int _), (3, .int _)]) [1, 2, 3, 0] rfl ?_
        exact w_X2_join_56 C h1 hV
      · have hV := hV.2 c48
        refine kt_iconst (v := 1) C dX2_join_51 (by decide) ?_
        refine kt_goto C 56 dX2_join_52 rfl ?_
        refine kt_pick (lv' := [(0, .ref _), (1, .ref _), (2, .int _), (3, .int _)]) [1, 2, 3, 0] rfl ?_
        exact w_X2_join_56 C h1 hV
    · have hV := hV.2 c20
      refine kt_aload_n C dX2_join_23 rfl rfl ?_
      refine kt_iload_n C dX2_join_24 rfl rfl ?_
      refine kt_aload_n C dX2_join_25 rfl rfl ?_
      refine kt_get (ci := 4) C 7 h1 rfl rfl inlX4 (by decide) wd_430 rfl dX2_join_26 ?_
      refine kt_aload_n C dX2_join_29 rfl rfl ?_
      refine kt_get (ci := 4) C 8 h1 rfl rfl inlX4 (by decide) wd_431 rfl dX2_join_30 ?_
      refine kt_callV (n := 3) C (w_X2_put  hV) (by decide) rfl rfl wd_432 wd_202 wd_203 wd_14 wd_204 hd_X2_put rfl ⟨Nat.le_of_ble_eq_true rfl, Nat.le_of_ble_eq_true rfl⟩ ⟨Nat.zero_le _, Nat.zero_le _⟩ rfl (Nat.le_of_ble_eq_true rfl) dX2_join_33 (fun r m11 hE => ?_)
      obtain ⟨rfl, hV⟩ := hE
      refine kt_stv ?_
      refine kt_iconst (v := 1) C dX2_join_36 (by decide) ?_
      exact kt_zret C rfl ⟨_, rfl, hV⟩ dX2_join_37
  · have hV := hV.2 c9
    refine kt_iconst (v := 0) C dX2_join_12 (by decide) ?_
    exact kt_zret C rfl ⟨_, rfl, hV⟩ dX2_join_13
theorem hd_X2_forgetAll : yX2_forgetAll.cls = RX2 ∧ yX2_forgetAll.cls ≠ "java/lang/invoke/MethodHandle" ∧ yX2_forgetAll.cls ≠ "java/lang/invoke/VarHandle" ∧ (parseMethodDescriptor yX2_forgetAll.desc).map (fun d => d.parameters.length) = some 0 := by decide +kernel
def V_X2_forgetAll_4 (n : Nat) (y1 : Int32) (y2 : Int32) (m : MW) (K : Int32 → MW → Prop) : Prop := match n with
  | 0 => False
  | n + 1 => ((10 ≤ y2 → (K y1 m)) ∧ (¬ 10 ≤ y2 → (vp_in y2 10 ∧ (((m.1.1 2 0 (y2).toNatClampNeg) = 0 → (V_X2_forgetAll_4 n  (y1) ((y2 + 1)) m K)) ∧ (¬ (m.1.1 2 0 (y2).toNatClampNeg) = 0 → (vp_in y2 10 ∧ ∀ m1 : MW, m1 = ((up3 m.1.1 2 0 (y2).toNatClampNeg 0, m.1.2), m.2) → (V_X2_forgetAll_4 n  ((y1 + 1)) ((y2 + 1)) m1 K)))))))
def V_X2_forgetAll (m : MW) (K : Int32 → MW → Prop) : Prop := (∃ k : Nat, V_X2_forgetAll_4 k  (0) (0) m K)
set_option maxHeartbeats 4000000 in
set_option maxRecDepth 100000 in
theorem w_X2_forgetAll_4 {p : Program} {l : Launch} {e : Env} {s : State} {mi : MethodId} {args : Array Value} {below : List Frame} {meth : Method} {c : Code} {g : GG} {K : Int32 → MW → Prop} (C : Cx p s mi args meth c cX2_forgetAll RX2 3 (some .int) g) (n : Nat) : ∀ {y1 : Int32} {y2 : Int32} {m : MW}, V_X2_forgetAll_4 n  y1 y2 m K → TT p l e { frames := 0, cells := 0, slots := 0, locals := 0 } s mi args below meth c 0 0 (MQ below (QE g (Ei K)) args s 0 0 (gA g)) g 3 m 4 [(0, .ref (gad g 1 0)), (1, .int (y1)), (2, .int (y2))] [] := by
  induction n with
  | zero => intros; rename_i hV; exact absurd hV (by simp [V_X2_forgetAll_4])
  | succ n ih =>
    intro y1 y2 m hV
    unfold V_X2_forgetAll_4 at hV
    refine kt_iload_n C dX2_forgetAll_4 rfl rfl ?_
    refine kt_bipush (v := 10) C dX2_forgetAll_5 (by decide) ?_
    refine kt_icmp_ge C 35 dX2_forgetAll_7 rfl (fun c7 => ?_) (fun c7 => ?_)
    · have hV := hV.1 c7
      refine kt_iload_n C dX2_forgetAll_35 rfl rfl ?_
      exact kt_iret C ⟨_, rfl, hV⟩ dX2_forgetAll_36
    · have hV := hV.2 c7
      refine kt_aload_n C dX2_forgetAll_10 rfl rfl ?_
      refine kt_get (ci := 2) C 0 (by decide) rfl rfl inlX2 (by decide) wd_40 rfl dX2_forgetAll_11 ?_
      refine kt_iload_n C dX2_forgetAll_14 rfl rfl ?_
      refine kt_zald C (by decide) rfl hV.1 dX2_forgetAll_15 ?_
      have hV := hV.2
      refine kt_if_eq C 29 dX2_forgetAll_16 rfl (fun c16 => ?_) (fun c16 => ?_)
      · have hV := hV.1 c16
        refine kt_iinc (v := _ + 1) (lv' := [(2, .int _), (0, .ref _), (1, .int _)]) C dX2_forgetAll_29 rfl rfl (by decide) rfl ?_
        refine kt_goto C 4 dX2_forgetAll_32 rfl ?_
        refine kt_pick (lv' := [(0, .ref _), (1, .int _), (2, .int _)]) [1, 2, 0] rfl ?_
        exact ih  hV
      · have hV := hV.2 c16
        refine kt_iinc (v := _ + 1) (lv' := [(1, .int _), (0, .ref _), (2, .int _)]) C dX2_forgetAll_19 rfl rfl (by decide) rfl ?_
        refine kt_aload_n C dX2_forgetAll_22 rfl rfl ?_
        refine kt_get (ci := 2) C 0 (by decide) rfl rfl inlX2 (by decide) wd_40 rfl dX2_forgetAll_23 ?_
        refine kt_iload_n C dX2_forgetAll_26 rfl rfl ?_
        refine kt_iconst (v := 0) C dX2_forgetAll_27 (by decide) ?_
        refine kt_zast3 (v' := 0) C (by decide) rfl hV.1 rfl (ea_2 _ _ _ _ _) dX2_forgetAll_28 (fun m1 hm1 => ?_)
        have hV := hV.2 m1 hm1
        refine kt_iinc (v := _ + 1) (lv' := [(2, .int _), (1, .int _), (0, .ref _)]) C dX2_forgetAll_29 rfl rfl (by decide) rfl ?_
        refine kt_goto C 4 dX2_forgetAll_32 rfl ?_
        refine kt_pick (lv' := [(0, .ref _), (1, .int _), (2, .int _)]) [2, 1, 0] rfl ?_
        exact ih  hV
set_option maxHeartbeats 4000000 in
set_option maxRecDepth 100000 in
theorem w_X2_forgetAll {l : Launch} {g : GG} {m : MW} {K : Int32 → MW → Prop} (hV : V_X2_forgetAll   m K) : Ct l yX2_forgetAll cX2_forgetAll 3 (some .int) 0 0 [.ref (gad g 1 0)] g m (Ei K) := by
  refine ct_intro RX2 (by decide) rfl (Nat.le_of_ble_eq_true rfl) ?_
  intro p e s mi below meth c C
  unfold V_X2_forgetAll at hV
  refine kt_iconst (v := 0) C dX2_forgetAll_0 (by decide) ?_
  refine kt_istore_n (lv' := [(1, .int _), (0, .ref _)]) C dX2_forgetAll_1 rfl (by decide) rfl ?_
  refine kt_iconst (v := 0) C dX2_forgetAll_2 (by decide) ?_
  refine kt_istore_n (lv' := [(2, .int _), (1, .int _), (0, .ref _)]) C dX2_forgetAll_3 rfl (by decide) rfl ?_
  obtain ⟨k, hV⟩ := hV
  refine kt_pick (lv' := [(0, .ref _), (1, .int _), (2, .int _)]) [2, 1, 0] rfl ?_
  exact w_X2_forgetAll_4 C  k hV
