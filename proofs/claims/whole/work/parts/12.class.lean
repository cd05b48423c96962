theorem hd_X7_isShare : yX7_isShare.cls = RX7 ∧ yX7_isShare.cls ≠ "java/lang/invoke/MethodHandle" ∧ yX7_isShare.cls ≠ "java/lang/invoke/VarHandle" ∧ (parseMethodDescriptor yX7_isShare.desc).map (fun d => d.parameters.length) = some 1 := by decide +kernel
def V_X7_isShare (x1 : Int32) (m : MW) (K : Int32 → MW → Prop) : Prop := ((x1 < 0 → (K 0 m)) ∧ (¬ x1 < 0 → (((m.1.1 0 0 5) ≤ x1 → (K 0 m)) ∧ (¬ (m.1.1 0 0 5) ≤ x1 → (K 1 m)))))
set_option maxHeartbeats 4000000 in
set_option maxRecDepth 100000 in
theorem w_X7_isShare {l : Launch} {g : GG} {x1 : Int32} {m : MW} {K : Int32 → MW → Prop} (hV : V_X7_isShare  x1 m K) : Ct l yX7_isShare cX7_isShare 2 (some .boolean) 0 0 [.ref (gad g 0 0), .int x1] g m (Ei K) := by
  refine ct_intro RX7 (by decide) rfl (Nat.le_of_ble_eq_true rfl) ?_
  intro p e s mi below meth c C
  unfold V_X7_isShare at hV
  refine kt_iload_n C dX7_isShare_0 rfl rfl ?_
  refine kt_if_lt C 16 dX7_isShare_1 rfl (fun c1 => ?_) (fun c1 => ?_)
  · have hV := hV.1 c1
    refine kt_iconst (v := 0) C dX7_isShare_16 (by decide) ?_
    exact kt_zret C rfl ⟨_, rfl, hV⟩ dX7_isShare_17
  · have hV := hV.2 c1
    refine kt_iload_n C dX7_isShare_4 rfl rfl ?_
    refine kt_aload_n C dX7_isShare_5 rfl rfl ?_
    refine kt_get (ci := 7) C 5 (by decide) rfl rfl inlX7 (by decide) wd_30 rfl dX7_isShare_6 ?_
    refine kt_icmp_ge C 16 dX7_isShare_9 rfl (fun c9 => ?_) (fun c9 => ?_)
    · have hV := hV.1 c9
      refine kt_iconst (v := 0) C dX7_isShare_16 (by decide) ?_
      exact kt_zret C rfl ⟨_, rfl, hV⟩ dX7_isShare_17
    · have hV := hV.2 c9
      refine kt_iconst (v := 1) C dX7_isShare_12 (by decide) ?_
      refine kt_goto C 17 dX7_isShare_13 rfl ?_
      exact kt_zret C rfl ⟨_, rfl, hV⟩ dX7_isShare_17
theorem hd_X7_share : yX7_share.cls = RX7 ∧ yX7_share.cls ≠ "java/lang/invoke/MethodHandle" ∧ yX7_share.cls ≠ "java/lang/invoke/VarHandle" ∧ (parseMethodDescriptor yX7_share.desc).map (fun d => d.parameters.length) = some 1 := by decide +kernel
def V_X7_share (x1 : Int32) (m : MW) (K : Int32 → MW → Prop) : Prop := (V_X7_isFact  (x1) m (fun v2 m1 => ((¬ v2 = 0 → (((m1.1.1 0 0 5) < 10 → (vp_in (m1.1.1 0 0 5) 10 ∧ (∀ m4 : MW, m4 = ((up3 m1.1.1 11 ((m1.1.1 0 0 5)).toNatClampNeg 3 x1, m1.1.2), m1.2) → (∀ m5 : MW, m5 = ((up3 m4.1.1 0 0 5 ((m4.1.1 0 0 5) + 1), m4.1.2), m4.2) → (K ((m5.1.1 0 0 5) - 1) m5))))) ∧ (¬ (m1.1.1 0 0 5) < 10 → (K (-2000003) m1)))) ∧ (v2 = 0 → (K (-2000001) m1)))))
set_option maxHeartbeats 4000000 in
set_option maxRecDepth 100000 in
theorem w_X7_share {l : Launch} {g : GG} {x1 : Int32} {m : MW} {K : Int32 → MW → Prop} (hV : V_X7_share  x1 m K) : Ct l yX7_share cX7_share 2 (some .int) 1 20 [.ref (gad g 0 0), .int x1] g m (Ei K) := by
  refine ct_intro RX7 (by decide) rfl (Nat.le_of_ble_eq_true rfl) ?_
  intro p e s mi below meth c C
  unfold V_X7_share at hV
  refine kt_iload_n C dX7_share_0 rfl rfl ?_
  refine kt_callS (n := 1) C (w_X7_isFact  hV) wd_151 wd_152 wd_2 wd_153 hd_X7_isFact rfl ⟨Nat.le_of_ble_eq_true rfl, Nat.le_of_ble_eq_true rfl⟩ ⟨Nat.zero_le _, Nat.zero_le _⟩ rfl (Nat.le_of_ble_eq_true rfl) dX7_share_1 (fun r m1 hE => ?_)
  obtain ⟨v2, rfl, hV⟩ := hE
  refine kt_sti ?_
  refine kt_if_ne C 10 dX7_share_4 rfl (fun c4 => ?_) (fun c4 => ?_)
  · have hV := hV.1 c4
    refine kt_aload_n C dX7_share_10 rfl rfl ?_
    refine kt_get (ci := 7) C 5 (by decide) rfl rfl inlX7 (by decide) wd_30 rfl dX7_share_11 ?_
    refine kt_bipush (v := 10) C dX7_share_14 (by decide) ?_
    refine kt_icmp_lt C 22 dX7_share_16 rfl (fun c16 => ?_) (fun c16 => ?_)
    · have hV := hV.1 c16
      refine kt_aload_n C dX7_share_22 rfl rfl ?_
      refine kt_get (ci := 7) C 1 (by decide) rfl rfl inlX7 (by decide) wd_17 rfl dX7_share_23 ?_
      refine kt_aload_n C dX7_share_26 rfl rfl ?_
      refine kt_get (ci := 7) C 5 (by decide) rfl rfl inlX7 (by decide) wd_30 rfl dX7_share_27 ?_
      have hb3 := vp_lt hV.1
      refine kt_aldS C (by decide) rfl hV.1 dX7_share_30 ?_
      have hV := hV.2
      refine kt_iload_n C dX7_share_31 rfl rfl ?_
      refine kt_put3 (ty := .int) (ci := 4) C 3 hb3 rfl rfl inlX4 tyX4_ok nmX4 (by decide) wd_150 rfl (by decide +kernel) rfl rfl (Nat.le_of_ble_eq_true rfl) (ep_11_3 _ _ _ _) dX7_share_32 (fun m4 hm4 => ?_)
      have hV := hV m4 hm4
      refine kt_aload_n C dX7_share_35 rfl rfl ?_
      refine kt_dup C dX7_share_36 rfl ?_
      refine kt_get (ci := 7) C 5 (by decide) rfl rfl inlX7 (by decide) wd_30 rfl dX7_share_37 ?_
      refine kt_iconst (v := 1) C dX7_share_40 (by decide) ?_
      refine kt_iadd C dX7_share_41 ?_
      refine kt_put3 (ty := .int) (ci := 7) C 5 (by decide) rfl rfl inlX7 tyX7_ok nmX7 (by decide) wd_30 rfl (by decide +kernel) rfl rfl (Nat.le_of_ble_eq_true rfl) (ep_0_5 _ _ _ _) dX7_share_42 (fun m5 hm5 => ?_)
      have hV := hV m5 hm5
      refine kt_aload_n C dX7_share_45 rfl rfl ?_
      refine kt_get (ci := 7) C 5 (by decide) rfl rfl inlX7 (by decide) wd_30 rfl dX7_share_46 ?_
      refine kt_iconst (v := 1) C dX7_share_49 (by decide) ?_
      refine kt_isub C dX7_share_50 ?_
      exact kt_iret C ⟨_, rfl, hV⟩ dX7_share_51
    · have hV := hV.2 c16
      refine kt_ldc (v := (-2000003)) C wd_149 dX7_share_19 ?_
      exact kt_iret C ⟨_, rfl, hV⟩ dX7_share_21
  · have hV := hV.2 c4
    refine kt_ldc (v := (-2000001)) C wd_148 dX7_share_7 ?_
    exact kt_iret C ⟨_, rfl, hV⟩ dX7_share_9
theorem hd_X7_act : yX7_act.cls = RX7 ∧ yX7_act.cls ≠ "java/lang/invoke/MethodHandle" ∧ yX7_act.cls ≠ "java/lang/invoke/VarHandle" ∧ (parseMethodDescriptor yX7_act.desc).map (fun d => d.parameters.length) = some 4 := by decide +kernel
def V_X7_act (x1 : Int32) (x2 : Int32) (x3 : Int32) (x4 : Int32) (m : MW) (K : Int32 → MW → Prop) : Prop := (V_X7_isShare  (x1) m (fun v2 m1 => ((¬ v2 = 0 → ((x2 < 0 → (K (-2000002) m1)) ∧ (¬ x2 < 0 → ((x2 ≤ 9 → ((¬ x2 = 0 → (vp_in x1 10 ∧ (V_X4_addAct (x1).toNatClampNeg (x2) (x3) (x4) m1 (fun v5 m4 => ((v5 = 0 → (K (-2000003) m4)) ∧ (¬ v5 = 0 → (vp_in x1 10 ∧ (K (m4.1.1 11 (x1).toNatClampNeg 4) m4)))))))) ∧ (x2 = 0 → (V_X7_isEnd  (x3) m1 (fun v8 m7 => ((v8 = 0 → (K (-2000002) m7)) ∧ (¬ v8 = 0 → (V_X7_isEnd  (x4) m7 (fun v10 m9 => ((¬ v10 = 0 → (vp_in x1 10 ∧ (V_X4_addAct (x1).toNatClampNeg (x2) (x3) (x4) m9 (fun v13 m12 => ((v13 = 0 → (K (-2000003) m12)) ∧ (¬ v13 = 0 → (vp_in x1 10 ∧ (K (m12.1.1 11 (x1).toNatClampNeg 4) m12)))))))) ∧ (v10 = 0 → (K (-2000002) m9)))))))))))) ∧ (¬ x2 ≤ 9 → (K (-2000002) m1)))))) ∧ (v2 = 0 → (K (-2000001) m1)))))
set_option maxHeartbeats 4000000 in
set_option maxRecDepth 100000 in
theorem w_X7_act {l : Launch} {g : GG} {x1 : Int32} {x2 : Int32} {x3 : Int32} {x4 : Int32} {m : MW} {K : Int32 → MW → Prop} (hV : V_X7_act  x1 x2 x3 x4 m K) : Ct l yX7_act cX7_act 5 (some .int) 1 23 [.ref (gad g 0 0), .int x1, .int x2, .int x3, .int x4] g m (Ei K) := by
  refine ct_intro RX7 (by decide) rfl (Nat.le_of_ble_eq_true rfl) ?_
  intro p e s mi below meth c C
  unfold V_X7_act at hV
  refine kt_aload_n C dX7_act_0 rfl rfl ?_
  refine kt_iload_n C dX7_act_1 rfl rfl ?_
  refine kt_callV (n := 1) C (w_X7_isShare  hV) (by decide) rfl rfl wd_170 wd_171 wd_172 wd_2 wd_173 hd_X7_isShare rfl ⟨Nat.le_of_ble_eq_true rfl, Nat.le_of_ble_eq_true rfl⟩ ⟨Nat.zero_le _, Nat.zero_le _⟩ rfl (Nat.le_of_ble_eq_true rfl) dX7_act_2 (fun r m1 hE => ?_)
  obtain ⟨v2, rfl, hV⟩ := hE
  refine kt_sti ?_
  refine kt_if_ne C 11 dX7_act_5 rfl (fun c5 => ?_) (fun c5 => ?_)
  · have hV := hV.1 c5
    refine kt_iload_n C dX7_act_11 rfl rfl ?_
    refine kt_if_lt C 21 dX7_act_12 rfl (fun c12 => ?_) (fun c12 => ?_)
    · have hV := hV.1 c12
      refine kt_ldc (v := (-2000002)) C wd_168 dX7_act_21 ?_
      exact kt_iret C ⟨_, rfl, hV⟩ dX7_act_23
    · have hV := hV.2 c12
      refine kt_iload_n C dX7_act_15 rfl rfl ?_
      refine kt_bipush (v := 9) C dX7_act_16 (by decide) ?_
      refine kt_icmp_le C 24 dX7_act_18 rfl (fun c18 => ?_) (fun c18 => ?_)
      · have hV := hV.1 c18
        refine kt_iload_n C dX7_act_24 rfl rfl ?_
        refine kt_if_ne C 46 dX7_act_25 rfl (fun c25 => ?_) (fun c25 => ?_)
        · have hV := hV.1 c25
          refine kt_aload_n C dX7_act_46 rfl rfl ?_
          refine kt_get (ci := 7) C 1 (by decide) rfl rfl inlX7 (by decide) wd_17 rfl dX7_act_47 ?_
          refine kt_iload_n C dX7_act_50 rfl rfl ?_
          have hb3 := vp_lt hV.1
          refine kt_aldS C (by decide) rfl hV.1 dX7_act_51 ?_
          have hV := hV.2
          refine kt_iload_n C dX7_act_52 rfl rfl ?_
          refine kt_iload_n C dX7_act_53 rfl rfl ?_
          refine kt_iload C dX7_act_54 rfl ?_
          refine kt_callV (n := 3) C (w_X4_addAct hb3 hV) hb3 rfl rfl wd_179 wd_180 wd_181 wd_35 wd_182 hd_X4_addAct rfl ⟨Nat.le_of_ble_eq_true rfl, Nat.le_of_ble_eq_true rfl⟩ ⟨Nat.zero_le _, Nat.zero_le _⟩ rfl (Nat.le_of_ble_eq_true rfl) dX7_act_56 (fun r m4 hE => ?_)
          obtain ⟨v5, rfl, hV⟩ := hE
          refine kt_sti ?_
          refine kt_if_eq C 74 dX7_act_59 rfl (fun c59 => ?_) (fun c59 => ?_)
          · have hV := hV.1 c59
            refine kt_ldc (v := (-2000003)) C wd_149 dX7_act_74 ?_
            exact kt_iret C ⟨_, rfl, hV⟩ dX7_act_76
          · have hV := hV.2 c59
            refine kt_aload_n C dX7_act_62 rfl rfl ?_
            refine kt_get (ci := 7) C 1 (by decide) rfl rfl inlX7 (by decide) wd_17 rfl dX7_act_63 ?_
            refine kt_iload_n C dX7_act_66 rfl rfl ?_
            have hb6 := vp_lt hV.1
            refine kt_aldS C (by decide) rfl hV.1 dX7_act_67 ?_
            have hV := hV.2
            refine kt_get (ci := 4) C 4 hb6 rfl rfl inlX4 (by decide) wd_169 rfl dX7_act_68 ?_
            refine kt_goto C 76 dX7_act_71 rfl ?_
            exact kt_iret C ⟨_, rfl, hV⟩ dX7_act_76
        · have hV := hV.2 c25
          refine kt_iload_n C dX7_act_28 rfl rfl ?_
          refine kt_callS (n := 1) C (w_X7_isEnd  hV) wd_174 wd_175 wd_2 wd_176 hd_X7_isEnd rfl ⟨Nat.le_of_ble_eq_true rfl, Nat.le_of_ble_eq_true rfl⟩ ⟨Nat.zero_le _, Nat.zero_le _⟩ rfl (Nat.le_of_ble_eq_true rfl) dX7_act_29 (fun r m7 hE => ?_)
          obtain ⟨v8, rfl, hV⟩ := hE
          refine kt_sti ?_
          refine kt_if_eq C 43 dX7_act_32 rfl (fun c32 => ?_) (fun c32 => ?_)
          · have hV := hV.1 c32
            refine kt_ldc (v := (-2000002)) C wd_168 dX7_act_43 ?_
            exact kt_iret C ⟨_, rfl, hV⟩ dX7_act_45
          · have hV := hV.2 c32
            refine kt_iload C dX7_act_35 rfl ?_
            refine kt_callS (n := 1) C (w_X7_isEnd  hV) wd_174 wd_175 wd_2 wd_176 hd_X7_isEnd rfl ⟨Nat.le_of_ble_eq_true rfl, Nat.le_of_ble_eq_true rfl⟩ ⟨Nat.zero_le _, Nat.zero_le _⟩ rfl (Nat.le_of_ble_eq_true rfl) dX7_act_37 (fun r m9 hE => ?_)
            obtain ⟨v10, rfl, hV⟩ := hE
            refine kt_sti ?_
            refine kt_if_ne C 46 dX7_act_40 rfl (fun c40 => ?_) (fun c40 => ?_)
            · have hV := hV.1 c40
              refine kt_aload_n C dX7_act_46 rfl rfl ?_
              refine kt_get (ci := 7) C 1 (by decide) rfl rfl inlX7 (by decide) wd_17 rfl dX7_act_47 ?_
              refine kt_iload_n C dX7_act_50 rfl rfl ?_
              have hb11 := vp_lt hV.1
              refine kt_aldS C (by decide) rfl hV.1 dX7_act_51 ?_
              have hV := hV.2
              refine kt_iload_n C dX7_act_52 rfl rfl ?_
              refine kt_iload_n C dX7_act_53 rfl rfl ?_
              refine kt_iload C dX7_act_54 rfl ?_
              refine kt_callV (n := 3) C (w_X4_addAct hb11 hV) hb11 rfl rfl wd_179 wd_180 wd_181 wd_35 wd_182 hd_X4_addAct rfl ⟨Nat.le_of_ble_eq_true rfl, Nat.le_of_ble_eq_true rfl⟩ ⟨Nat.zero_le _, Nat.zero_le _⟩ rfl (Nat.le_of_ble_eq_true rfl) dX7_act_56 (fun r m12 hE => ?_)
              obtain ⟨v13, rfl, hV⟩ := hE
              refine kt_sti ?_
              refine kt_if_eq C 74 dX7_act_59 rfl (fun c59 => ?_) (fun c59 => ?_)
              · have hV := hV.1 c59
                refine kt_ldc (v := (-2000003)) C wd_149 dX7_act_74 ?_
                exact kt_iret C ⟨_, rfl, hV⟩ dX7_act_76
              · have hV := hV.2 c59
                refine kt_aload_n C dX7_act_62 rfl rfl ?_
                refine kt_get (ci := 7) C 1 (by decide) rfl rfl inlX7 (by decide) wd_17 rfl dX7_act_63 ?_
                refine kt_iload_n C dX7_act_66 rfl rfl ?_
                have hb14 := vp_lt hV.1
                refine kt_aldS C (by decide) rfl hV.1 dX7_act_67 ?_
                have hV := hV.2
                refine kt_get (ci := 4) C 4 hb14 rfl rfl inlX4 (by decide) wd_169 rfl dX7_act_68 ?_
                refine kt_goto C 76 dX7_act_71 rfl ?_
                exact kt_iret C ⟨_, rfl, hV⟩ dX7_act_76
            · have hV := hV.2 c40
              refine kt_ldc (v := (-2000002)) C wd_168 dX7_act_43 ?_
              exact kt_iret C ⟨_, rfl, hV⟩ dX7_act_45
      · have hV := hV.2 c18
        refine kt_ldc (v := (-2000002)) C wd_168 dX7_act_21 ?_
        exact kt_iret C ⟨_, rfl, hV⟩ dX7_act_23
  · have hV := hV.2 c5
    refine kt_ldc (v := (-2000001)) C wd_148 dX7_act_8 ?_
    exact kt_iret C ⟨_, rfl, hV⟩ dX7_act_10
theorem hd_X7_fact : yX7_fact.cls = RX7 ∧ yX7_fact.cls ≠ "java/lang/invoke/MethodHandle" ∧ yX7_fact.cls ≠ "java/lang/invoke/VarHandle" ∧ (parseMethodDescriptor yX7_fact.desc).map (fun d => d.parameters.length) = some 3 := by decide +kernel
def V_X7_fact (x1 : Int32) (x2 : Int32) (x3 : Int32) (m : MW) (K : Int32 → MW → Prop) : Prop := (V_X7_isFact  (x1) m (fun v2 m1 => ((¬ v2 = 0 → (V_X7_isEnd  (x2) m1 (fun v4 m3 => ((v4 = 0 → (K (-2000002) m3)) ∧ (¬ v4 = 0 → (V_X7_isEnd  (x3) m3 (fun v6 m5 => ((v6 = 0 → (K (-2000002) m5)) ∧ (¬ v6 = 0 → ((x2 ≤ x3 → (V_X2_put  (x1) (x2) (x3) m5 (fun m7 => (K 1 m7)))) ∧ (¬ x2 ≤ x3 → (K (-2000002) m5)))))))))))) ∧ (v2 = 0 → (K (-2000001) m1)))))
set_option maxHeartbeats 4000000 in
set_option maxRecDepth 100000 in
theorem w_X7_fact {l : Launch} {g : GG} {x1 : Int32} {x2 : Int32} {x3 : Int32} {m : MW} {K : Int32 → MW → Prop} (hV : V_X7_fact  x1 x2 x3 m K) : Ct l yX7_fact cX7_fact 4 (some .int) 2 43 [.ref (gad g 0 0), .int x1, .int x2, .int x3] g m (Ei K) := by
  refine ct_intro RX7 (by decide) rfl (Nat.le_of_ble_eq_true rfl) ?_
  intro p e s mi below meth c C
  unfold V_X7_fact at hV
  refine kt_iload_n C dX7_fact_0 rfl rfl ?_
  refine kt_callS (n := 1) C (w_X7_isFact  hV) wd_151 wd_152 wd_2 wd_153 hd_X7_isFact rfl ⟨Nat.le_of_ble_eq_true rfl, Nat.le_of_ble_eq_true rfl⟩ ⟨Nat.zero_le _, Nat.zero_le _⟩ rfl (Nat.le_of_ble_eq_true rfl) dX7_fact_1 (fun r m1 hE => ?_)
  obtain ⟨v2, rfl, hV⟩ := hE
  refine kt_sti ?_
  refine kt_if_ne C 10 dX7_fact_4 rfl (fun c4 => ?_) (fun c4 => ?_)
  · have hV := hV.1 c4
    refine kt_iload_n C dX7_fact_10 rfl rfl ?_
    refine kt_callS (n := 1) C (w_X7_isEnd  hV) wd_174 wd_175 wd_2 wd_176 hd_X7_isEnd rfl ⟨Nat.le_of_ble_eq_true rfl, Nat.le_of_ble_eq_true rfl⟩ ⟨Nat.zero_le _, Nat.zero_le _⟩ rfl (Nat.le_of_ble_eq_true rfl) dX7_fact_11 (fun r m3 hE => ?_)
    obtain ⟨v4, rfl, hV⟩ := hE
    refine kt_sti ?_
    refine kt_if_eq C 29 dX7_fact_14 rfl (fun c14 => ?_) (fun c14 => ?_)
    · have hV := hV.1 c14
      refine kt_ldc (v := (-2000002)) C wd_168 dX7_fact_29 ?_
      exact kt_iret C ⟨_, rfl, hV⟩ dX7_fact_31
    · have hV := hV.2 c14
      refine kt_iload_n C dX7_fact_17 rfl rfl ?_
      refine kt_callS (n := 1) C (w_X7_isEnd  hV) wd_174 wd_175 wd_2 wd_176 hd_X7_isEnd rfl ⟨Nat.le_of_ble_eq_true rfl, Nat.le_of_ble_eq_true rfl⟩ ⟨Nat.zero_le _, Nat.zero_le _⟩ rfl (Nat.le_of_ble_eq_true rfl) dX7_fact_18 (fun r m5 hE => ?_)
      obtain ⟨v6, rfl, hV⟩ := hE
      refine kt_sti ?_
      refine kt_if_eq C 29 dX7_fact_21 rfl (fun c21 => ?_) (fun c21 => ?_)
      · have hV := hV.1 c21
        refine kt_ldc (v := (-2000002)) C wd_168 dX7_fact_29 ?_
        exact kt_iret C ⟨_, rfl, hV⟩ dX7_fact_31
      · have hV := hV.2 c21
        refine kt_iload_n C dX7_fact_24 rfl rfl ?_
        refine kt_iload_n C dX7_fact_25 rfl rfl ?_
        refine kt_icmp_le C 32 dX7_fact_26 rfl (fun c26 => ?_) (fun c26 => ?_)
        · have hV := hV.1 c26
          refine kt_aload_n C dX7_fact_32 rfl rfl ?_
          refine kt_get (ci := 7) C 0 (by decide) rfl rfl inlX7 (by decide) wd_15 rfl dX7_fact_33 ?_
          refine kt_iload_n C dX7_fact_36 rfl rfl ?_
          refine kt_iload_n C dX7_fact_37 rfl rfl ?_
          refine kt_iload_n C dX7_fact_38 rfl rfl ?_
          refine kt_callV (n := 3) C (w_X2_put  hV) (by decide) rfl rfl wd_201 wd_202 wd_203 wd_14 wd_204 hd_X2_put rfl ⟨Nat.le_of_ble_eq_true rfl, Nat.le_of_ble_eq_true rfl⟩ ⟨Nat.zero_le _, Nat.zero_le _⟩ rfl (Nat.le_of_ble_eq_true rfl) dX7_fact_39 (fun r m7 hE => ?_)
          obtain ⟨rfl, hV⟩ := hE
          refine kt_stv ?_
          refine kt_iconst (v := 1) C dX7_fact_42 (by decide) ?_
          exact kt_iret C ⟨_, rfl, hV⟩ dX7_fact_43
        · have hV := hV.2 c26
          refine kt_ldc (v := (-2000002)) C wd_168 dX7_fact_29 ?_
          exact kt_iret C ⟨_, rfl, hV⟩ dX7_fact_31
  · have hV := hV.2 c4
    refine kt_ldc (v := (-2000001)) C wd_148 dX7_fact_7 ?_
    exact kt_iret C ⟨_, rfl, hV⟩ dX7_fact_9
theorem hd_X7_end : yX7_end.cls = RX7 ∧ yX7_end.cls ≠ "java/lang/invoke/MethodHandle" ∧ yX7_end.cls ≠ "java/lang/invoke/VarHandle" ∧ (parseMethodDescriptor yX7_end.desc).map (fun d => d.parameters.length) = some 2 := by decide +kernel
def V_X7_end (x1 : Int32) (x2 : Int32) (m : MW) (K : Int32 → MW → Prop) : Prop := (V_X7_isFact  (x1) m (fun v2 m1 => ((¬ v2 = 0 → ((x2 < 0 → (K (-2000002) m1)) ∧ (¬ x2 < 0 → ((x2 ≤ 1 → (vp_in x1 10 ∧ ((¬ (m1.1.1 2 0 (x1).toNatClampNeg) = 0 → ((¬ x2 = 0 → (vp_in x1 10 ∧ (K (m1.1.1 4 0 (x1).toNatClampNeg) m1))) ∧ (x2 = 0 → (vp_in x1 10 ∧ (K (m1.1.1 3 0 (x1).toNatClampNeg) m1))))) ∧ ((m1.1.1 2 0 (x1).toNatClampNeg) = 0 → (K (-2000000) m1))))) ∧ (¬ x2 ≤ 1 → (K (-2000002) m1)))))) ∧ (v2 = 0 → (K (-2000001) m1)))))
set_option maxHeartbeats 4000000 in
set_option maxRecDepth 100000 in
theorem w_X7_end {l : Launch} {g : GG} {x1 : Int32} {x2 : Int32} {m : MW} {K : Int32 → MW → Prop} (hV : V_X7_end  x1 x2 m K) : Ct l yX7_end cX7_end 3 (some .int) 1 20 [.ref (gad g 0 0), .int x1, .int x2] g m (Ei K) := by
  refine ct_intro RX7 (by decide) rfl (Nat.le_of_ble_eq_true rfl) ?_
  intro p e s mi below meth c C
  unfold V_X7_end at hV
  refine kt_iload_n C dX7_end_0 rfl rfl ?_
  refine kt_callS (n := 1) C (w_X7_isFact  hV) wd_151 wd_152 wd_2 wd_153 hd_X7_isFact rfl ⟨Nat.le_of_ble_eq_true rfl, Nat.le_of_ble_eq_true rfl⟩ ⟨Nat.zero_le _, Nat.zero_le _⟩ rfl (Nat.le_of_ble_eq_true rfl) dX7_end_1 (fun r m1 hE => ?_)
  obtain ⟨v2, rfl, hV⟩ := hE
  refine kt_sti ?_
  refine kt_if_ne C 10 dX7_end_4 rfl (fun c4 => ?_) (fun c4 => ?_)
  · have hV := hV.1 c4
    refine kt_iload_n C dX7_end_10 rfl rfl ?_
    refine kt_if_lt C 19 dX7_end_11 rfl (fun c11 => ?_) (fun c11 => ?_)
    · have hV := hV.1 c11
      refine kt_ldc (v := (-2000002)) C wd_168 dX7_end_19 ?_
      exact kt_iret C ⟨_, rfl, hV⟩ dX7_end_21
    · have hV := hV.2 c11
      refine kt_iload_n C dX7_end_14 rfl rfl ?_
      refine kt_iconst (v := 1) C dX7_end_15 (by decide) ?_
      refine kt_icmp_le C 22 dX7_end_16 rfl (fun c16 => ?_) (fun c16 => ?_)
      · have hV := hV.1 c16
        refine kt_aload_n C dX7_end_22 rfl rfl ?_
        refine kt_get (ci := 7) C 0 (by decide) rfl rfl inlX7 (by decide) wd_15 rfl dX7_end_23 ?_
        refine kt_get (ci := 2) C 0 (by decide) rfl rfl inlX2 (by decide) wd_213 rfl dX7_end_26 ?_
        refine kt_iload_n C dX7_end_29 rfl rfl ?_
        refine kt_zald C (by decide) rfl hV.1 dX7_end_30 ?_
        have hV := hV.2
        refine kt_if_ne C 37 dX7_end_31 rfl (fun c31 => ?_) (fun c31 => ?_)
        · have hV := hV.1 c31
          refine kt_iload_n C dX7_end_37 rfl rfl ?_
          refine kt_if_ne C 53 dX7_end_38 rfl (fun c38 => ?_) (fun c38 => ?_)
          · have hV := hV.1 c38
            refine kt_aload_n C dX7_end_53 rfl rfl ?_
            refine kt_get (ci := 7) C 0 (by decide) rfl rfl inlX7 (by decide) wd_15 rfl dX7_end_54 ?_
            refine kt_get (ci := 2) C 2 (by decide) rfl rfl inlX2 (by decide) wd_216 rfl dX7_end_57 ?_
            refine kt_iload_n C dX7_end_60 rfl rfl ?_
            refine kt_iald C (by decide) rfl hV.1 dX7_end_61 ?_
            have hV := hV.2
            exact kt_iret C ⟨_, rfl, hV⟩ dX7_end_62
          · have hV := hV.2 c38
            refine kt_aload_n C dX7_end_41 rfl rfl ?_
            refine kt_get (ci := 7) C 0 (by decide) rfl rfl inlX7 (by decide) wd_15 rfl dX7_end_42 ?_
            refine kt_get (ci := 2) C 1 (by decide) rfl rfl inlX2 (by decide) wd_215 rfl dX7_end_45 ?_
            refine kt_iload_n C dX7_end_48 rfl rfl ?_
            refine kt_iald C (by decide) rfl hV.1 dX7_end_49 ?_
            have hV := hV.2
            refine kt_goto C 62 dX7_end_50 rfl ?_
            exact kt_iret C ⟨_, rfl, hV⟩ dX7_end_62
        · have hV := hV.2 c31
          refine kt_ldc (v := (-2000000)) C wd_214 dX7_end_34 ?_
          exact kt_iret C ⟨_, rfl, hV⟩ dX7_end_36
      · have hV := hV.2 c16
        refine kt_ldc (v := (-2000002)) C wd_168 dX7_end_19 ?_
        exact kt_iret C ⟨_, rfl, hV⟩ dX7_end_21
  · have hV := hV.2 c4
    refine kt_ldc (v := (-2000001)) C wd_148 dX7_end_7 ?_
    exact kt_iret C ⟨_, rfl, hV⟩ dX7_end_9
theorem hd_X7_workers : yX7_workers.cls = RX7 ∧ yX7_workers.cls ≠ "java/lang/invoke/MethodHandle" ∧ yX7_workers.cls ≠ "java/lang/invoke/VarHandle" ∧ (parseMethodDescriptor yX7_workers.desc).map (fun d => d.parameters.length) = some 1 := by decide +kernel
def V_X7_workers (x1 : Int32) (m : MW) (K : Int32 → MW → Prop) : Prop := ((x1 < 1 → (K (-2000002) m)) ∧ (¬ x1 < 1 → ((x1 ≤ 4 → (V_X1_hire  (x1) m (fun m1 => (K (m.1.1 8 0 1) m1)))) ∧ (¬ x1 ≤ 4 → (K (-2000002) m)))))
set_option maxHeartbeats 4000000 in
set_option maxRecDepth 100000 in
theorem w_X7_workers {l : Launch} {g : GG} {x1 : Int32} {m : MW} {K : Int32 → MW → Prop} (hV : V_X7_workers  x1 m K) : Ct l yX7_workers cX7_workers 3 (some .int) 1 22 [.ref (gad g 0 0), .int x1] g m (Ei K) := by
  refine ct_intro RX7 (by decide) rfl (Nat.le_of_ble_eq_true rfl) ?_
  intro p e s mi below meth c C
  unfold V_X7_workers at hV
  refine kt_iload_n C dX7_workers_0 rfl rfl ?_
  refine kt_iconst (v := 1) C dX7_workers_1 (by decide) ?_
  refine kt_icmp_lt C 10 dX7_workers_2 rfl (fun c2 => ?_) (fun c2 => ?_)
  · have hV := hV.1 c2
    refine kt_ldc (v := (-2000002)) C wd_168 dX7_workers_10 ?_
    exact kt_iret C ⟨_, rfl, hV⟩ dX7_workers_12
  · have hV := hV.2 c2
    refine kt_iload_n C dX7_workers_5 rfl rfl ?_
    refine kt_iconst (v := 4) C dX7_workers_6 (by decide) ?_
    refine kt_icmp_le C 13 dX7_workers_7 rfl (fun c7 => ?_) (fun c7 => ?_)
    · have hV := hV.1 c7
      refine kt_aload_n C dX7_workers_13 rfl rfl ?_
      refine kt_get (ci := 7) C 3 (by decide) rfl rfl inlX7 (by decide) wd_25 rfl dX7_workers_14 ?_
      refine kt_get (ci := 1) C 1 (by decide) rfl rfl inlX1 (by decide) wd_225 rfl dX7_workers_17 ?_
      refine kt_istore_n (lv' := [(2, .int _), (0, .ref _), (1, .int _)]) C dX7_workers_20 rfl (by decide) rfl ?_
      refine kt_aload_n C dX7_workers_21 rfl rfl ?_
      refine kt_get (ci := 7) C 3 (by decide) rfl rfl inlX7 (by decide) wd_25 rfl dX7_workers_22 ?_
      refine kt_iload_n C dX7_workers_25 rfl rfl ?_
      refine kt_callV (n := 1) C (w_X1_hire  hV) (by decide) rfl rfl wd_226 wd_87 wd_88 wd_24 wd_89 hd_X1_hire rfl ⟨Nat.le_of_ble_eq_true rfl, Nat.le_of_ble_eq_true rfl⟩ ⟨Nat.zero_le _, Nat.zero_le _⟩ rfl (Nat.le_of_ble_eq_true rfl) dX7_workers_26 (fun r m1 hE => ?_)
      obtain ⟨rfl, hV⟩ := hE
      refine kt_stv ?_
      refine kt_iload_n C dX7_workers_29 rfl rfl ?_
      exact kt_iret C ⟨_, rfl, hV⟩ dX7_workers_30
    · have hV := hV.2 c7
      refine kt_ldc (v := (-2000002)) C wd_168 dX7_workers_10 ?_
      exact kt_iret C ⟨_, rfl, hV⟩ dX7_workers_12
theorem hd_X7_lose : yX7_lose.cls = RX7 ∧ yX7_lose.cls ≠ "java/lang/invoke/MethodHandle" ∧ yX7_lose.cls ≠ "java/lang/invoke/VarHandle" ∧ (parseMethodDescriptor yX7_lose.desc).map (fun d => d.parameters.length) = some 2 := by decide +kernel
def V_X7_lose (x1 : Int32) (x2 : Int32) (m : MW) (K : Int32 → MW → Prop) : Prop := (V_X1_isHere  (x1) m (fun v2 m1 => ((¬ v2 = 0 → ((x2 < 1 → (K (-2000002) m1)) ∧ (¬ x2 < 1 → ((x2 ≤ (100000) → (vp_in x1 4 ∧ (∀ m4 : MW, m4 = ((up3 m1.1.1 15 (x1).toNatClampNeg 3 x2, m1.1.2), m1.2) → (K 1 m4)))) ∧ (¬ x2 ≤ (100000) → (K (-2000002) m1)))))) ∧ (v2 = 0 → (K (-2000001) m1)))))
set_option maxHeartbeats 4000000 in
set_option maxRecDepth 100000 in
theorem w_X7_lose {l : Launch} {g : GG} {x1 : Int32} {x2 : Int32} {m : MW} {K : Int32 → MW → Prop} (hV : V_X7_lose  x1 x2 m K) : Ct l yX7_lose cX7_lose 3 (some .int) 1 21 [.ref (gad g 0 0), .int x1, .int x2] g m (Ei K) := by
  refine ct_intro RX7 (by decide) rfl (Nat.le_of_ble_eq_true rfl) ?_
  intro p e s mi below meth c C
  unfold V_X7_lose at hV
  refine kt_aload_n C dX7_lose_0 rfl rfl ?_
  refine kt_get (ci := 7) C 3 (by decide) rfl rfl inlX7 (by decide) wd_25 rfl dX7_lose_1 ?_
  refine kt_iload_n C dX7_lose_4 rfl rfl ?_
  refine kt_callV (n := 1) C (w_X1_isHere  hV) (by decide) rfl rfl wd_242 wd_243 wd_244 wd_24 wd_245 hd_X1_isHere rfl ⟨Nat.le_of_ble_eq_true rfl, Nat.le_of_ble_eq_true rfl⟩ ⟨Nat.zero_le _, Nat.zero_le _⟩ rfl (Nat.le_of_ble_eq_true rfl) dX7_lose_5 (fun r m1 hE => ?_)
  obtain ⟨v2, rfl, hV⟩ := hE
  refine kt_sti ?_
  refine kt_if_ne C 14 dX7_lose_8 rfl (fun c8 => ?_) (fun c8 => ?_)
  · have hV := hV.1 c8
    refine kt_iload_n C dX7_lose_14 rfl rfl ?_
    refine kt_iconst (v := 1) C dX7_lose_15 (by decide) ?_
    refine kt_icmp_lt C 25 dX7_lose_16 rfl (fun c16 => ?_) (fun c16 => ?_)
    · have hV := hV.1 c16
      refine kt_ldc (v := (-2000002)) C wd_168 dX7_lose_25 ?_
      exact kt_iret C ⟨_, rfl, hV⟩ dX7_lose_27
    · have hV := hV.2 c16
      refine kt_iload_n C dX7_lose_19 rfl rfl ?_
      refine kt_ldc (v := (100000)) C wd_239 dX7_lose_20 ?_
      refine kt_icmp_le C 28 dX7_lose_22 rfl (fun c22 => ?_) (fun c22 => ?_)
      · have hV := hV.1 c22
        refine kt_aload_n C dX7_lose_28 rfl rfl ?_
        refine kt_get (ci := 7) C 3 (by decide) rfl rfl inlX7 (by decide) wd_25 rfl dX7_lose_29 ?_
        refine kt_get (ci := 1) C 0 (by decide) rfl rfl inlX1 (by decide) wd_240 rfl dX7_lose_32 ?_
        refine kt_iload_n C dX7_lose_35 rfl rfl ?_
        have hb3 := vp_lt hV.1
        refine kt_aldW C (by decide) rfl hV.1 dX7_lose_36 ?_
        have hV := hV.2
        refine kt_iload_n C dX7_lose_37 rfl rfl ?_
        refine kt_put3 (ty := .int) (ci := 6) C 3 hb3 rfl rfl inlX6 tyX6_ok nmX6 (by decide) wd_241 rfl (by decide +kernel) rfl rfl (Nat.le_of_ble_eq_true rfl) (ep_15_3 _ _ _ _) dX7_lose_38 (fun m4 hm4 => ?_)
        have hV := hV m4 hm4
        refine kt_iconst (v := 1) C dX7_lose_41 (by decide) ?_
        exact kt_iret C ⟨_, rfl, hV⟩ dX7_lose_42
      · have hV := hV.2 c22
        refine kt_ldc (v := (-2000002)) C wd_168 dX7_lose_25 ?_
        exact kt_iret C ⟨_, rfl, hV⟩ dX7_lose_27
  · have hV := hV.2 c8
    refine kt_ldc (v := (-2000001)) C wd_148 dX7_lose_11 ?_
    exact kt_iret C ⟨_, rfl, hV⟩ dX7_lose_13
theorem hd_X7_seed : yX7_seed.cls = RX7 ∧ yX7_seed.cls ≠ "java/lang/invoke/MethodHandle" ∧ yX7_seed.cls ≠ "java/lang/invoke/VarHandle" ∧ (parseMethodDescriptor yX7_seed.desc).map (fun d => d.parameters.length) = some 1 := by decide +kernel
def V_X7_seed (x1 : Int32) (m : MW) (K : Int32 → MW → Prop) : Prop := (∀ m1 : MW, m1 = ((up3 m.1.1 8 0 2 x1, m.1.2), m.2) → (K (m.1.1 8 0 2) m1))
set_option maxHeartbeats 4000000 in
set_option maxRecDepth 100000 in
theorem w_X7_seed {l : Launch} {g : GG} {x1 : Int32} {m : MW} {K : Int32 → MW → Prop} (hV : V_X7_seed  x1 m K) : Ct l yX7_seed cX7_seed 3 (some .int) 0 0 [.ref (gad g 0 0), .int x1] g m (Ei K) := by
  refine ct_intro RX7 (by decide) rfl (Nat.le_of_ble_eq_true rfl) ?_
  intro p e s mi below meth c C
  unfold V_X7_seed at hV
  refine kt_aload_n C dX7_seed_0 rfl rfl ?_
  refine kt_get (ci := 7) C 3 (by decide) rfl rfl inlX7 (by decide) wd_25 rfl dX7_seed_1 ?_
  refine kt_get (ci := 1) C 2 (by decide) rfl rfl inlX1 (by decide) wd_255 rfl dX7_seed_4 ?_
  refine kt_istore_n (lv' := [(2, .int _), (0, .ref _), (1, .int _)]) C dX7_seed_7 rfl (by decide) rfl ?_
  refine kt_aload_n C dX7_seed_8 rfl rfl ?_
  refine kt_get (ci := 7) C 3 (by decide) rfl rfl inlX7 (by decide) wd_25 rfl dX7_seed_9 ?_
  refine kt_iload_n C dX7_seed_12 rfl rfl ?_
  refine kt_put3 (ty := .int) (ci := 1) C 2 (by decide) rfl rfl inlX1 tyX1_ok nmX1 (by decide) wd_255 rfl (by decide +kernel) rfl rfl (Nat.le_of_ble_eq_true rfl) (ep_8_2 _ _ _ _) dX7_seed_13 (fun m1 hm1 => ?_)
  have hV := hV m1 hm1
  refine kt_iload_n C dX7_seed_16 rfl rfl ?_
  exact kt_iret C ⟨_, rfl, hV⟩ dX7_seed_17
theorem hd_X7_set : yX7_set.cls = RX7 ∧ yX7_set.cls ≠ "java/lang/invoke/MethodHandle" ∧ yX7_set.cls ≠ "java/lang/invoke/VarHandle" ∧ (parseMethodDescriptor yX7_set.desc).map (fun d => d.parameters.length) = some 2 := by decide +kernel
def V_X7_set (x1 : Int32) (x2 : Int32) (m : MW) (K : Int32 → MW → Prop) : Prop := ((x1 < 1 → (K (-2000002) m)) ∧ (¬ x1 < 1 → ((20 < x1 → (K (-2000002) m)) ∧ (¬ 20 < x1 → ((x2 < 0 → (K (-2000002) m)) ∧ (¬ x2 < 0 → ((x2 ≤ 10000 → (∀ m1 : MW, m1 = ((up3 m.1.1 0 0 7 x1, m.1.2), m.2) → (∀ m2 : MW, m2 = ((up3 m1.1.1 0 0 8 x2, m1.1.2), m1.2) → (K (m.1.1 0 0 7) m2)))) ∧ (¬ x2 ≤ 10000 → (K (-2000002) m)))))))))
set_option maxHeartbeats 4000000 in
set_option maxRecDepth 100000 in
theorem w_X7_set {l : Launch} {g : GG} {x1 : Int32} {x2 : Int32} {m : MW} {K : Int32 → MW → Prop} (hV : V_X7_set  x1 x2 m K) : Ct l yX7_set cX7_set 4 (some .int) 0 0 [.ref (gad g 0 0), .int x1, .int x2] g m (Ei K) := by
  refine ct_intro RX7 (by decide) rfl (Nat.le_of_ble_eq_true rfl) ?_
  intro p e s mi below meth c C
  unfold V_X7_set at hV
  refine kt_iload_n C dX7_set_0 rfl rfl ?_
  refine kt_iconst (v := 1) C dX7_set_1 (by decide) ?_
  refine kt_icmp_lt C 22 dX7_set_2 rfl (fun c2 => ?_) (fun c2 => ?_)
  · have hV := hV.1 c2
    refine kt_ldc (v := (-2000002)) C wd_168 dX7_set_22 ?_
    exact kt_iret C ⟨_, rfl, hV⟩ dX7_set_24
  · have hV := hV.2 c2
    refine kt_iload_n C dX7_set_5 rfl rfl ?_
    refine kt_bipush (v := 20) C dX7_set_6 (by decide) ?_
    refine kt_icmp_gt C 22 dX7_set_8 rfl (fun c8 => ?_) (fun c8 => ?_)
    · have hV := hV.1 c8
      refine kt_ldc (v := (-2000002)) C wd_168 dX7_set_22 ?_
      exact kt_iret C ⟨_, rfl, hV⟩ dX7_set_24
    · have hV := hV.2 c8
      refine kt_iload_n C dX7_set_11 rfl rfl ?_
      refine kt_if_lt C 22 dX7_set_12 rfl (fun c12 => ?_) (fun c12 => ?_)
      · have hV := hV.1 c12
        refine kt_ldc (v := (-2000002)) C wd_168 dX7_set_22 ?_
        exact kt_iret C ⟨_, rfl, hV⟩ dX7_set_24
      · have hV := hV.2 c12
        refine kt_iload_n C dX7_set_15 rfl rfl ?_
        refine kt_sipush (v := 10000) C dX7_set_16 (by decide) ?_
        refine kt_icmp_le C 25 dX7_set_19 rfl (fun c19 => ?_) (fun c19 => ?_)
        · have hV := hV.1 c19
          refine kt_aload_n C dX7_set_25 rfl rfl ?_
          refine kt_get (ci := 7) C 7 (by decide) rfl rfl inlX7 (by decide) wd_32 rfl dX7_set_26 ?_
          refine kt_istore_n (lv' := [(3, .int _), (0, .ref _), (1, .int _), (2, .int _)]) C dX7_set_29 rfl (by decide) rfl ?_
          refine kt_aload_n C dX7_set_30 rfl rfl ?_
          refine kt_iload_n C dX7_set_31 rfl rfl ?_
          refine kt_put3 (ty := .int) (ci := 7) C 7 (by decide) rfl rfl inlX7 tyX7_ok nmX7 (by decide) wd_32 rfl (by decide +kernel) rfl rfl (Nat.le_of_ble_eq_true rfl) (ep_0_7 _ _ _ _) dX7_set_32 (fun m1 hm1 => ?_)
          have hV := hV m1 hm1
          refine kt_aload_n C dX7_set_35 rfl rfl ?_
          refine kt_iload_n C dX7_set_36 rfl rfl ?_
          refine kt_put3 (ty := .int) (ci := 7) C 8 (by decide) rfl rfl inlX7 tyX7_ok nmX7 (by decide) wd_33 rfl (by decide +kernel) rfl rfl (Nat.le_of_ble_eq_true rfl) (ep_0_8 _ _ _ _) dX7_set_37 (fun m2 hm2 => ?_)
          have hV := hV m2 hm2
          refine kt_iload_n C dX7_set_40 rfl rfl ?_
          exact kt_iret C ⟨_, rfl, hV⟩ dX7_set_41
        · have hV := hV.2 c19
          refine kt_ldc (v := (-2000002)) C wd_168 dX7_set_22 ?_
          exact kt_iret C ⟨_, rfl, hV⟩ dX7_set_24
theorem hd_X7_told : yX7_told.cls = RX7 ∧ yX7_told.cls ≠ "java/lang/invoke/MethodHandle" ∧ yX7_told.cls ≠ "java/lang/invoke/VarHandle" ∧ (parseMethodDescriptor yX7_told.desc).map (fun d => d.parameters.length) = some 1 := by decide +kernel
def V_X7_told (x1 : Int32) (m : MW) (K : Int32 → MW → Prop) : Prop := ((((x1 : Int32).toInt < 0 ∨ 9 < (x1 : Int32).toInt) → (K (-2000002) m)) ∧ ((x1 = 0 → (K (m.1.1 10 0 0) m)) ∧ ((x1 = 1 → (K (m.1.1 10 0 1) m)) ∧ ((x1 = 2 → (K (m.1.1 10 0 2) m)) ∧ ((x1 = 3 → (K (m.1.1 10 0 3) m)) ∧ ((x1 = 4 → (K (m.1.1 10 0 4) m)) ∧ ((x1 = 5 → (K (m.1.1 10 0 5) m)) ∧ ((x1 = 6 → (K (m.1.1 8 0 3) m)) ∧ ((x1 = 7 → (K (m.1.1 8 0 1) m)) ∧ ((x1 = 8 → (K (m.1.1 0 0 5) m)) ∧ (x1 = 9 → (K (m.1.1 8 0 4) m))))))))))))
set_option maxHeartbeats 4000000 in
set_option maxRecDepth 100000 in
theorem w_X7_told {l : Launch} {g : GG} {x1 : Int32} {m : MW} {K : Int32 → MW → Prop} (hV : V_X7_told  x1 m K) : Ct l yX7_told cX7_told 2 (some .int) 0 0 [.ref (gad g 0 0), .int x1] g m (Ei K) := by
  refine ct_intro RX7 (by decide) rfl (Nat.le_of_ble_eq_true rfl) ?_
  intro p e s mi below meth c C
  unfold V_X7_told at hV
  refine kt_iload_n C dX7_told_0 rfl rfl ?_
  by_cases c1 : ((x1 : Int32).toInt < 0 ∨ 9 < (x1 : Int32).toInt)
  · have hV := hV.1 c1
    refine kt_tableOut C 133 dX7_told_1 c1 rfl ?_
    refine kt_ldc (v := (-2000002)) C wd_168 dX7_told_133 ?_
    exact kt_iret C ⟨_, rfl, hV⟩ dX7_told_135
  · have hV := hV.2
    have c1a := fun h => c1 (Or.inl h)
    have c1b := fun h => c1 (Or.inr h)
    have c1c := sw_0_9 c1a c1b
    rcases c1c with c1d | c1d | c1d | c1d | c1d | c1d | c1d | c1d | c1d | c1d
    · have hV := hV.1 c1d
      refine kt_tableIn C 56 dX7_told_1 c1a c1b (by rw [c1d]; rfl) rfl ?_
      refine kt_aload_n C dX7_told_56 rfl rfl ?_
      refine kt_get (ci := 7) C 4 (by decide) rfl rfl inlX7 (by decide) wd_29 rfl dX7_told_57 ?_
      refine kt_get (ci := 5) C 0 (by decide) rfl rfl inlX5 (by decide) wd_285 rfl dX7_told_60 ?_
      exact kt_iret C ⟨_, rfl, hV⟩ dX7_told_63
    · have hV := hV.2.1 c1d
      refine kt_tableIn C 64 dX7_told_1 c1a c1b (by rw [c1d]; rfl) rfl ?_
      refine kt_aload_n C dX7_told_64 rfl rfl ?_
      refine kt_get (ci := 7) C 4 (by decide) rfl rfl inlX7 (by decide) wd_29 rfl dX7_told_65 ?_
      refine kt_get (ci := 5) C 1 (by decide) rfl rfl inlX5 (by decide) wd_281 rfl dX7_told_68 ?_
      exact kt_iret C ⟨_, rfl, hV⟩ dX7_told_71
    · have hV := hV.2.2.1 c1d
      refine kt_tableIn C 72 dX7_told_1 c1a c1b (by rw [c1d]; rfl) rfl ?_
      refine kt_aload_n C dX7_told_72 rfl rfl ?_
      refine kt_get (ci := 7) C 4 (by decide) rfl rfl inlX7 (by decide) wd_29 rfl dX7_told_73 ?_
      refine kt_get (ci := 5) C 2 (by decide) rfl rfl inlX5 (by decide) wd_283 rfl dX7_told_76 ?_
      exact kt_iret C ⟨_, rfl, hV⟩ dX7_told_79
    · have hV := hV.2.2.2.1 c1d
      refine kt_tableIn C 80 dX7_told_1 c1a c1b (by rw [c1d]; rfl) rfl ?_
      refine kt_aload_n C dX7_told_80 rfl rfl ?_
      refine kt_get (ci := 7) C 4 (by decide) rfl rfl inlX7 (by decide) wd_29 rfl dX7_told_81 ?_
      refine kt_get (ci := 5) C 3 (by decide) rfl rfl inlX5 (by decide) wd_284 rfl dX7_told_84 ?_
      exact kt_iret C ⟨_, rfl, hV⟩ dX7_told_87
    · have hV := hV.2.2.2.2.1 c1d
      refine kt_tableIn C 88 dX7_told_1 c1a c1b (by rw [c1d]; rfl) rfl ?_
      refine kt_aload_n C dX7_told_88 rfl rfl ?_
      refine kt_get (ci := 7) C 4 (by decide) rfl rfl inlX7 (by decide) wd_29 rfl dX7_told_89 ?_
      refine kt_get (ci := 5) C 4 (by decide) rfl rfl inlX5 (by decide) wd_336 rfl dX7_told_92 ?_
      exact kt_iret C ⟨_, rfl, hV⟩ dX7_told_95
    · have hV := hV.2.2.2.2.2.1 c1d
      refine kt_tableIn C 96 dX7_told_1 c1a c1b (by rw [c1d]; rfl) rfl ?_
      refine kt_aload_n C dX7_told_96 rfl rfl ?_
      refine kt_get (ci := 7) C 4 (by decide) rfl rfl inlX7 (by decide) wd_29 rfl dX7_told_97 ?_
      refine kt_get (ci := 5) C 5 (by decide) rfl rfl inlX5 (by decide) wd_323 rfl dX7_told_100 ?_
      exact kt_iret C ⟨_, rfl, hV⟩ dX7_told_103
    · have hV := hV.2.2.2.2.2.2.1 c1d
      refine kt_tableIn C 104 dX7_told_1 c1a c1b (by rw [c1d]; rfl) rfl ?_
      refine kt_aload_n C dX7_told_104 rfl rfl ?_
      refine kt_get (ci := 7) C 3 (by decide) rfl rfl inlX7 (by decide) wd_25 rfl dX7_told_105 ?_
      refine kt_get (ci := 1) C 3 (by decide) rfl rfl inlX1 (by decide) wd_303 rfl dX7_told_108 ?_
      exact kt_iret C ⟨_, rfl, hV⟩ dX7_told_111
    · have hV := hV.2.2.2.2.2.2.2.1 c1d
      refine kt_tableIn C 112 dX7_told_1 c1a c1b (by rw [c1d]; rfl) rfl ?_
      refine kt_aload_n C dX7_told_112 rfl rfl ?_
      refine kt_get (ci := 7) C 3 (by decide) rfl rfl inlX7 (by decide) wd_25 rfl dX7_told_113 ?_
      refine kt_get (ci := 1) C 1 (by decide) rfl rfl inlX1 (by decide) wd_225 rfl dX7_told_116 ?_
      exact kt_iret C ⟨_, rfl, hV⟩ dX7_told_119
    · have hV := hV.2.2.2.2.2.2.2.2.1 c1d
      refine kt_tableIn C 120 dX7_told_1 c1a c1b (by rw [c1d]; rfl) rfl ?_
      refine kt_aload_n C dX7_told_120 rfl rfl ?_
      refine kt_get (ci := 7) C 5 (by decide) rfl rfl inlX7 (by decide) wd_30 rfl dX7_told_121 ?_
      exact kt_iret C ⟨_, rfl, hV⟩ dX7_told_124
    · have hV := hV.2.2.2.2.2.2.2.2.2 c1d
      refine kt_tableIn C 125 dX7_told_1 c1a c1b (by rw [c1d]; rfl) rfl ?_
      refine kt_aload_n C dX7_told_125 rfl rfl ?_
      refine kt_get (ci := 7) C 3 (by decide) rfl rfl inlX7 (by decide) wd_25 rfl dX7_told_126 ?_
      refine kt_get (ci := 1) C 4 (by decide) rfl rfl inlX1 (by decide) wd_511 rfl dX7_told_129 ?_
      exact kt_iret C ⟨_, rfl, hV⟩ dX7_told_132
theorem hd_X7_doer : yX7_doer.cls = RX7 ∧ yX7_doer.cls ≠ "java/lang/invoke/MethodHandle" ∧ yX7_doer.cls ≠ "java/lang/invoke/VarHandle" ∧ (parseMethodDescriptor yX7_doer.desc).map (fun d => d.parameters.length) = some 1 := by decide +kernel
def V_X7_doer (x1 : Int32) (m : MW) (K : Int32 → MW → Prop) : Prop := (V_X7_isShare  (x1) m (fun v2 m1 => ((v2 = 0 → (K (-2000001) m1)) ∧ (¬ v2 = 0 → (vp_in x1 10 ∧ (K (m1.1.1 11 (x1).toNatClampNeg 5) m1))))))
set_option maxHeartbeats 4000000 in
set_option maxRecDepth 100000 in
theorem w_X7_doer {l : Launch} {g : GG} {x1 : Int32} {m : MW} {K : Int32 → MW → Prop} (hV : V_X7_doer  x1 m K) : Ct l yX7_doer cX7_doer 2 (some .int) 1 21 [.ref (gad g 0 0), .int x1] g m (Ei K) := by
  refine ct_intro RX7 (by decide) rfl (Nat.le_of_ble_eq_true rfl) ?_
  intro p e s mi below meth c C
  unfold V_X7_doer at hV
  refine kt_aload_n C dX7_doer_0 rfl rfl ?_
  refine kt_iload_n C dX7_doer_1 rfl rfl ?_
  refine kt_callV (n := 1) C (w_X7_isShare  hV) (by decide) rfl rfl wd_170 wd_171 wd_172 wd_2 wd_173 hd_X7_isShare rfl ⟨Nat.le_of_ble_eq_true rfl, Nat.le_of_ble_eq_true rfl⟩ ⟨Nat.zero_le _, Nat.zero_le _⟩ rfl (Nat.le_of_ble_eq_true rfl) dX7_doer_2 (fun r m1 hE => ?_)
  obtain ⟨v2, rfl, hV⟩ := hE
  refine kt_sti ?_
  refine kt_if_eq C 20 dX7_doer_5 rfl (fun c5 => ?_) (fun c5 => ?_)
  · have hV := hV.1 c5
    refine kt_ldc (v := (-2000001)) C wd_148 dX7_doer_20 ?_
    exact kt_iret C ⟨_, rfl, hV⟩ dX7_doer_22
  · have hV := hV.2 c5
    refine kt_aload_n C dX7_doer_8 rfl rfl ?_
    refine kt_get (ci := 7) C 1 (by decide) rfl rfl inlX7 (by decide) wd_17 rfl dX7_doer_9 ?_
    refine kt_iload_n C dX7_doer_12 rfl rfl ?_
    have hb3 := vp_lt hV.1
    refine kt_aldS C (by decide) rfl hV.1 dX7_doer_13 ?_
    have hV := hV.2
    refine kt_get (ci := 4) C 5 hb3 rfl rfl inlX4 (by decide) wd_290 rfl dX7_doer_14 ?_
    refine kt_goto C 22 dX7_doer_17 rfl ?_
    exact kt_iret C ⟨_, rfl, hV⟩ dX7_doer_22
theorem hd_X7_clear : yX7_clear.cls = RX7 ∧ yX7_clear.cls ≠ "java/lang/invoke/MethodHandle" ∧ yX7_clear.cls ≠ "java/lang/invoke/VarHandle" ∧ (parseMethodDescriptor yX7_clear.desc).map (fun d => d.parameters.length) = some 0 := by decide +kernel
def V_X7_clear (m : MW) (K : Int32 → MW → Prop) : Prop := (∀ m1 : MW, m1 = ((up3 m.1.1 8 0 3 0, m.1.2), m.2) → (∀ m2 : MW, m2 = ((up3 m1.1.1 8 0 2 0, m1.1.2), m1.2) → (V_X2_forgetAll   m2 (fun v4 m3 => (K v4 m3)))))
set_option maxHeartbeats 4000000 in
set_option maxRecDepth 100000 in
theorem w_X7_clear {l : Launch} {g : GG} {m : MW} {K : Int32 → MW → Prop} (hV : V_X7_clear   m K) : Ct l yX7_clear cX7_clear 1 (some .int) 1 22 [.ref (gad g 0 0)] g m (Ei K) := by
  refine ct_intro RX7 (by decide) rfl (Nat.le_of_ble_eq_true rfl) ?_
  intro p e s mi below meth c C
  unfold V_X7_clear at hV
  refine kt_aload_n C dX7_clear_0 rfl rfl ?_
  refine kt_get (ci := 7) C 3 (by decide) rfl rfl inlX7 (by decide) wd_25 rfl dX7_clear_1 ?_
  refine kt_iconst (v := 0) C dX7_clear_4 (by decide) ?_
  refine kt_put3 (ty := .int) (ci := 1) C 3 (by decide) rfl rfl inlX1 tyX1_ok nmX1 (by decide) wd_303 rfl (by decide +kernel) rfl rfl (Nat.le_of_ble_eq_true rfl) (ep_8_3 _ _ _ _) dX7_clear_5 (fun m1 hm1 => ?_)
  have hV := hV m1 hm1
  refine kt_aload_n C dX7_clear_8 rfl rfl ?_
  refine kt_get (ci := 7) C 3 (by decide) rfl rfl inlX7 (by decide) wd_25 rfl dX7_clear_9 ?_
  refine kt_iconst (v := 0) C dX7_clear_12 (by decide) ?_
  refine kt_put3 (ty := .int) (ci := 1) C 2 (by decide) rfl rfl inlX1 tyX1_ok nmX1 (by decide) wd_255 rfl (by decide +kernel) rfl rfl (Nat.le_of_ble_eq_true rfl) (ep_8_2 _ _ _ _) dX7_clear_13 (fun m2 hm2 => ?_)
  have hV := hV m2 hm2
  refine kt_aload_n C dX7_clear_16 rfl rfl ?_
  refine kt_get (ci := 7) C 0 (by decide) rfl rfl inlX7 (by decide) wd_15 rfl dX7_clear_17 ?_
  refine kt_callV (n := 0) C (w_X2_forgetAll  hV) (by decide) rfl rfl wd_528 wd_529 wd_530 wd_14 wd_531 hd_X2_forgetAll rfl ⟨Nat.le_of_ble_eq_true rfl, Nat.le_of_ble_eq_true rfl⟩ ⟨Nat.zero_le _, Nat.zero_le _⟩ rfl (Nat.le_of_ble_eq_true rfl) dX7_clear_20 (fun r m3 hE => ?_)
  obtain ⟨v4, rfl, hV⟩ := hE
  refine kt_sti ?_
  exact kt_iret C ⟨_, rfl, hV⟩ dX7_clear_23
theorem hd_X7_finish : yX7_finish.cls = RX7 ∧ yX7_finish.cls ≠ "java/lang/invoke/MethodHandle" ∧ yX7_finish.cls ≠ "java/lang/invoke/VarHandle" ∧ (parseMethodDescriptor yX7_finish.desc).map (fun d => d.parameters.length) = some 3 := by decide +kernel
def V_X7_finish (i1 : Nat) (i2 : Nat) (x3 : Int32) (m : MW) (K : MW → Prop) : Prop := ((¬ x3 = 0 → (∀ m1 : MW, m1 = ((up3 m.1.1 11 i2 6 x3, m.1.2), m.2) → (∀ m2 : MW, m2 = ((up3 m1.1.1 11 i2 5 (nI i1), m1.1.2), m1.2) → (∀ m3 : MW, m3 = ((m2.1.1, upr m2.1.2 0 i1 none), m2.2) → (∀ m4 : MW, m4 = ((up3 m3.1.1 10 0 5 ((m3.1.1 10 0 5) + 1), m3.1.2), m3.2) → (∀ m5 : MW, m5 = ((up3 m4.1.1 0 0 6 ((m4.1.1 0 0 6) - 1), m4.1.2), m4.2) → (K m5))))))) ∧ (x3 = 0 → (V_X0_giveAnswer i1 i2  m (fun v7 m6 => (∀ m8 : MW, m8 = ((up3 m6.1.1 11 i2 6 v7, m6.1.2), m6.2) → (∀ m9 : MW, m9 = ((up3 m8.1.1 11 i2 5 (nI i1), m8.1.2), m8.2) → (∀ m10 : MW, m10 = ((m9.1.1, upr m9.1.2 0 i1 none), m9.2) → (∀ m11 : MW, m11 = ((up3 m10.1.1 10 0 5 ((m10.1.1 10 0 5) + 1), m10.1.2), m10.2) → (∀ m12 : MW, m12 = ((up3 m11.1.1 0 0 6 ((m11.1.1 0 0 6) - 1), m11.1.2), m11.2) → (K m12))))))))))
set_option maxHeartbeats 4000000 in
set_option maxRecDepth 100000 in
theorem w_X7_finish {l : Launch} {g : GG} {i1 : Nat} {i2 : Nat} {x3 : Int32} {m : MW} {K : MW → Prop} (h1 : i1 < 4) (h2 : i2 < 10) (hV : V_X7_finish i1 i2 x3 m K) : Ct l yX7_finish cX7_finish 4 none 1 21 [.ref (gad g 0 0), .ref (gad g 15 i1), .ref (gad g 11 i2), .int x3] g m (Ev K) := by
  refine ct_intro RX7 (by decide) rfl (Nat.le_of_ble_eq_true rfl) ?_
  intro p e s mi below meth c C
  unfold V_X7_finish at hV
  refine kt_aload_n C dX7_finish_0 rfl rfl ?_
  refine kt_iload_n C dX7_finish_1 rfl rfl ?_
  refine kt_if_ne C 16 dX7_finish_2 rfl (fun c2 => ?_) (fun c2 => ?_)
  · have hV := hV.1 c2
    refine kt_iload_n C dX7_finish_16 rfl rfl ?_
    refine kt_put3 (ty := .int) (ci := 4) C 6 h2 rfl rfl inlX4 tyX4_ok nmX4 (by decide) wd_282 rfl (by decide +kernel) rfl rfl (Nat.le_of_ble_eq_true rfl) (ep_11_6 _ _ _ _) dX7_finish_17 (fun m1 hm1 => ?_)
    have hV := hV m1 hm1
    refine kt_aload_n C dX7_finish_20 rfl rfl ?_
    refine kt_aload_n C dX7_finish_21 rfl rfl ?_
    refine kt_get (ci := 6) C 0 h1 rfl rfl inlX6 (by decide) wd_354 rfl dX7_finish_22 ?_
    refine kt_put3 (ty := .int) (ci := 4) C 5 h2 rfl rfl inlX4 tyX4_ok nmX4 (by decide) wd_290 rfl (by decide +kernel) rfl rfl (Nat.le_of_ble_eq_true rfl) (ep_11_5 _ _ _ _) dX7_finish_25 (fun m2 hm2 => ?_)
    have hV := hV m2 hm2
    refine kt_aload_n C dX7_finish_28 rfl rfl ?_
    refine kt_null C dX7_finish_29 ?_
    refine kt_putr (v := none) C h1 wd_304 dX7_finish_30 (fun m3 hm3 => ?_)
    have hV := hV m3 hm3
    refine kt_aload_n C dX7_finish_33 rfl rfl ?_
    refine kt_get (ci := 7) C 4 (by decide) rfl rfl inlX7 (by decide) wd_29 rfl dX7_finish_34 ?_
    refine kt_dup C dX7_finish_37 rfl ?_
    refine kt_get (ci := 5) C 5 (by decide) rfl rfl inlX5 (by decide) wd_323 rfl dX7_finish_38 ?_
    refine kt_iconst (v := 1) C dX7_finish_41 (by decide) ?_
    refine kt_iadd C dX7_finish_42 ?_
    refine kt_put3 (ty := .int) (ci := 5) C 5 (by decide) rfl rfl inlX5 tyX5_ok nmX5 (by decide) wd_323 rfl (by decide +kernel) rfl rfl (Nat.le_of_ble_eq_true rfl) (ep_10_5 _ _ _ _) dX7_finish_43 (fun m4 hm4 => ?_)
    have hV := hV m4 hm4
    refine kt_aload_n C dX7_finish_46 rfl rfl ?_
    refine kt_dup C dX7_finish_47 rfl ?_
    refine kt_get (ci := 7) C 6 (by decide) rfl rfl inlX7 (by decide) wd_31 rfl dX7_finish_48 ?_
    refine kt_iconst (v := 1) C dX7_finish_51 (by decide) ?_
    refine kt_isub C dX7_finish_52 ?_
    refine kt_put3 (ty := .int) (ci := 7) C 6 (by decide) rfl rfl inlX7 tyX7_ok nmX7 (by decide) wd_31 rfl (by decide +kernel) rfl rfl (Nat.le_of_ble_eq_true rfl) (ep_0_6 _ _ _ _) dX7_finish_53 (fun m5 hm5 => ?_)
    have hV := hV m5 hm5
    exact kt_vret C ⟨rfl, hV⟩ dX7_finish_56
  · have hV := hV.2 c2
    refine kt_aload_n C dX7_finish_5 rfl rfl ?_
    refine kt_get (ci := 6) C 1 h1 rfl rfl inlX6 (by decide) wd_353 rfl dX7_finish_6 ?_
    refine kt_aload_n C dX7_finish_9 rfl rfl ?_
    refine kt_callV (n := 1) C (w_X0_giveAnswer h1 h2 hV) h1 rfl rfl wd_355 wd_356 wd_357 wd_70 wd_358 hd_X0_giveAnswer rfl ⟨Nat.le_of_ble_eq_true rfl, Nat.le_of_ble_eq_true rfl⟩ ⟨Nat.zero_le _, Nat.zero_le _⟩ rfl (Nat.le_of_ble_eq_true rfl) dX7_finish_10 (fun r m6 hE => ?_)
    obtain ⟨v7, rfl, hV⟩ := hE
    refine kt_sti ?_
    refine kt_goto C 17 dX7_finish_13 rfl ?_
    refine kt_put3 (ty := .int) (ci := 4) C 6 h2 rfl rfl inlX4 tyX4_ok nmX4 (by decide) wd_282 rfl (by decide +kernel) rfl rfl (Nat.le_of_ble_eq_true rfl) (ep_11_6 _ _ _ _) dX7_finish_17 (fun m8 hm8 => ?_)
    have hV := hV m8 hm8
    refine kt_aload_n C dX7_finish_20 rfl rfl ?_
    refine kt_aload_n C dX7_finish_21 rfl rfl ?_
    refine kt_get (ci := 6) C 0 h1 rfl rfl inlX6 (by decide) wd_354 rfl dX7_finish_22 ?_
    refine kt_put3 (ty := .int) (ci := 4) C 5 h2 rfl rfl inlX4 tyX4_ok nmX4 (by decide) wd_290 rfl (by decide +kernel) rfl rfl (Nat.le_of_ble_eq_true rfl) (ep_11_5 _ _ _ _) dX7_finish_25 (fun m9 hm9 => ?_)
    have hV := hV m9 hm9
    refine kt_aload_n C dX7_finish_28 rfl rfl ?_
    refine kt_null C dX7_finish_29 ?_
    refine kt_putr (v := none) C h1 wd_304 dX7_finish_30 (fun m10 hm10 => ?_)
    have hV := hV m10 hm10
    refine kt_aload_n C dX7_finish_33 rfl rfl ?_
    refine kt_get (ci := 7) C 4 (by decide) rfl rfl inlX7 (by decide) wd_29 rfl dX7_finish_34 ?_
    refine kt_dup C dX7_finish_37 rfl ?_
    refine kt_get (ci := 5) C 5 (by decide) rfl rfl inlX5 (by decide) wd_323 rfl dX7_finish_38 ?_
    refine kt_iconst (v := 1) C dX7_finish_41 (by decide) ?_
    refine kt_iadd C dX7_finish_42 ?_
    refine kt_put3 (ty := .int) (ci := 5) C 5 (by decide) rfl rfl inlX5 tyX5_ok nmX5 (by decide) wd_323 rfl (by decide +kernel) rfl rfl (Nat.le_of_ble_eq_true rfl) (ep_10_5 _ _ _ _) dX7_finish_43 (fun m11 hm11 => ?_)
    have hV := hV m11 hm11
    refine kt_aload_n C dX7_finish_46 rfl rfl ?_
    refine kt_dup C dX7_finish_47 rfl ?_
    refine kt_get (ci := 7) C 6 (by decide) rfl rfl inlX7 (by decide) wd_31 rfl dX7_finish_48 ?_
    refine kt_iconst (v := 1) C dX7_finish_51 (by decide) ?_
    refine kt_isub C dX7_finish_52 ?_
    refine kt_put3 (ty := .int) (ci := 7) C 6 (by decide) rfl rfl inlX7 tyX7_ok nmX7 (by decide) wd_31 rfl (by decide +kernel) rfl rfl (Nat.le_of_ble_eq_true rfl) (ep_0_6 _ _ _ _) dX7_finish_53 (fun m12 hm12 => ?_)
    have hV := hV m12 hm12
    exact kt_vret C ⟨rfl, hV⟩ dX7_finish_56
theorem hd_X7_takeShare : yX7_takeShare.cls = RX7 ∧ yX7_takeShare.cls ≠ "java/lang/invoke/MethodHandle" ∧ yX7_takeShare.cls ≠ "java/lang/invoke/VarHandle" ∧ (parseMethodDescriptor yX7_takeShare.desc).map (fun d => d.parameters.length) = some 1 := by decide +kernel
def V_X7_takeShare (i1 : Nat) (m : MW) (K : MW → Prop) : Prop := (V_X3_takeFirst   m (fun o2 m1 => ((o2 = none → (K m1)) ∧ (∀ a3 : Nat, o2 = some a3 → a3 < 10 ∧ (∀ m4 : MW, m4 = ((up3 m1.1.1 10 0 4 ((m1.1.1 10 0 4) + 1), m1.1.2), m1.2) → (V_X6_begin i1 a3  m4 (fun m5 => ((¬ (m5.1.1 11 a3 4) = 0 → (K m5)) ∧ ((m5.1.1 11 a3 4) = 0 → (V_X7_finish i1 a3 (0) m5 (fun m6 => (K m6))))))))))))
set_option maxHeartbeats 4000000 in
set_option maxRecDepth 100000 in
theorem w_X7_takeShare {l : Launch} {g : GG} {i1 : Nat} {m : MW} {K : MW → Prop} (h1 : i1 < 4) (hV : V_X7_takeShare i1  m K) : Ct l yX7_takeShare cX7_takeShare 3 none 2 44 [.ref (gad g 0 0), .ref (gad g 15 i1)] g m (Ev K) := by
  refine ct_intro RX7 (by decide) rfl (Nat.le_of_ble_eq_true rfl) ?_
  intro p e s mi below meth c C
  unfold V_X7_takeShare at hV
  refine kt_aload_n C dX7_takeShare_0 rfl rfl ?_
  refine kt_get (ci := 7) C 2 (by decide) rfl rfl inlX7 (by decide) wd_21 rfl dX7_takeShare_1 ?_
  refine kt_callV (n := 0) C (w_X3_takeFirst  hV) (by decide) rfl rfl wd_337 wd_338 wd_339 wd_20 wd_340 hd_X3_takeFirst rfl ⟨Nat.le_of_ble_eq_true rfl, Nat.le_of_ble_eq_true rfl⟩ ⟨Nat.zero_le _, Nat.zero_le _⟩ rfl (Nat.le_of_ble_eq_true rfl) dX7_takeShare_4 (fun r m1 hE => ?_)
  obtain ⟨o2, rfl, hV⟩ := hE
  refine kt_sti ?_
  refine kt_refo (fun c4 => ?_) (fun a3 c4 => ?_)
  · have hV := hV.1 c4
    refine kt_astore_nN (lv' := [(2, .null), (0, .ref _), (1, .ref _)]) C dX7_takeShare_7 rfl (by decide) rfl ?_
    refine kt_aload_nN C dX7_takeShare_8 rfl rfl ?_
    refine kt_ifnonnullN C dX7_takeShare_9 ?_
    exact kt_vret C ⟨rfl, hV⟩ dX7_takeShare_12
  · have hV := hV.2 a3 c4
    have hba3 := hV.1
    have hV := hV.2
    refine kt_astore_n (lv' := [(2, .ref _), (0, .ref _), (1, .ref _)]) C dX7_takeShare_7 rfl (by decide) rfl ?_
    refine kt_aload_n C dX7_takeShare_8 rfl rfl ?_
    refine kt_ifnonnull C 13 dX7_takeShare_9 rfl ?_
    refine kt_aload_n C dX7_takeShare_13 rfl rfl ?_
    refine kt_get (ci := 7) C 4 (by decide) rfl rfl inlX7 (by decide) wd_29 rfl dX7_takeShare_14 ?_
    refine kt_dup C dX7_takeShare_17 rfl ?_
    refine kt_get (ci := 5) C 4 (by decide) rfl rfl inlX5 (by decide) wd_336 rfl dX7_takeShare_18 ?_
    refine kt_iconst (v := 1) C dX7_takeShare_21 (by decide) ?_
    refine kt_iadd C dX7_takeShare_22 ?_
    refine kt_put3 (ty := .int) (ci := 5) C 4 (by decide) rfl rfl inlX5 tyX5_ok nmX5 (by decide) wd_336 rfl (by decide +kernel) rfl rfl (Nat.le_of_ble_eq_true rfl) (ep_10_4 _ _ _ _) dX7_takeShare_23 (fun m4 hm4 => ?_)
    have hV := hV m4 hm4
    refine kt_aload_n C dX7_takeShare_26 rfl rfl ?_
    refine kt_aload_n C dX7_takeShare_27 rfl rfl ?_
    refine kt_callV (n := 1) C (w_X6_begin h1 hba3 hV) h1 rfl rfl wd_341 wd_342 wd_343 wd_63 wd_344 hd_X6_begin rfl ⟨Nat.le_of_ble_eq_true rfl, Nat.le_of_ble_eq_true rfl⟩ ⟨Nat.zero_le _, Nat.zero_le _⟩ rfl (Nat.le_of_ble_eq_true rfl) dX7_takeShare_28 (fun r m5 hE => ?_)
    obtain ⟨rfl, hV⟩ := hE
    refine kt_stv ?_
    refine kt_aload_n C dX7_takeShare_31 rfl rfl ?_
    refine kt_get (ci := 4) C 4 hba3 rfl rfl inlX4 (by decide) wd_169 rfl dX7_takeShare_32 ?_
    refine kt_if_ne C 45 dX7_takeShare_35 rfl (fun c35 => ?_) (fun c35 => ?_)
    · have hV := hV.1 c35
      exact kt_vret C ⟨rfl, hV⟩ dX7_takeShare_45
    · have hV := hV.2 c35
      refine kt_aload_n C dX7_takeShare_38 rfl rfl ?_
      refine kt_aload_n C dX7_takeShare_39 rfl rfl ?_
      refine kt_aload_n C dX7_takeShare_40 rfl rfl ?_
      refine kt_iconst (v := 0) C dX7_takeShare_41 (by decide) ?_
      refine kt_callV (n := 3) C (w_X7_finish h1 hba3 hV) (by decide) rfl rfl wd_349 wd_350 wd_351 wd_2 wd_352 hd_X7_finish rfl ⟨Nat.le_of_ble_eq_true rfl, Nat.le_of_ble_eq_true rfl⟩ ⟨Nat.zero_le _, Nat.zero_le _⟩ rfl (Nat.le_of_ble_eq_true rfl) dX7_takeShare_42 (fun r m6 hE => ?_)
      obtain ⟨rfl, hV⟩ := hE
      refine kt_stv ?_
      exact kt_vret C ⟨rfl, hV⟩ dX7_takeShare_45
theorem hd_X7_loseNow : yX7_loseNow.cls = RX7 ∧ yX7_loseNow.cls ≠ "java/lang/invoke/MethodHandle" ∧ yX7_loseNow.cls ≠ "java/lang/invoke/VarHandle" ∧ (parseMethodDescriptor yX7_loseNow.desc).map (fun d => d.parameters.length) = some 1 := by decide +kernel
def V_X7_loseNow (i1 : Nat) (m : MW) (K : MW → Prop) : Prop := ((m.1.2 0 i1 = none → (V_X1_remove i1  m (fun m2 => (K m2)))) ∧ (∀ a1 : Nat, m.1.2 0 i1 = some a1 → a1 < 10 ∧ (V_X3_putInFront a1  m (fun m3 => (∀ m4 : MW, m4 = ((m3.1.1, upr m3.1.2 0 i1 none), m3.2) → (∀ m5 : MW, m5 = ((up3 m4.1.1 10 0 5 ((m4.1.1 10 0 5) + 1), m4.1.2), m4.2) → (V_X1_remove i1  m5 (fun m6 => (K m6)))))))))
set_option maxHeartbeats 4000000 in
set_option maxRecDepth 100000 in
theorem w_X7_loseNow {l : Launch} {g : GG} {i1 : Nat} {m : MW} {K : MW → Prop} (h1 : i1 < 4) (hV : V_X7_loseNow i1  m K) : Ct l yX7_loseNow cX7_loseNow 2 none 1 21 [.ref (gad g 0 0), .ref (gad g 15 i1)] g m (Ev K) := by
  refine ct_intro RX7 (by decide) rfl (Nat.le_of_ble_eq_true rfl) ?_
  intro p e s mi below meth c C
  unfold V_X7_loseNow at hV
  refine kt_aload_n C dX7_loseNow_0 rfl rfl ?_
  refine kt_get (ci := 6) C 4 h1 rfl rfl inlX6 (by decide) wd_304 rfl dX7_loseNow_1 ?_
  refine kt_refo (fun c1 => ?_) (fun a1 c1 => ?_)
  · have hV := hV.1 c1
    refine kt_ifnullN C 36 dX7_loseNow_4 rfl ?_
    refine kt_aload_n C dX7_loseNow_36 rfl rfl ?_
    refine kt_get (ci := 7) C 3 (by decide) rfl rfl inlX7 (by decide) wd_25 rfl dX7_loseNow_37 ?_
    refine kt_aload_n C dX7_loseNow_40 rfl rfl ?_
    refine kt_callV (n := 1) C (w_X1_remove h1 hV) (by decide) rfl rfl wd_328 wd_329 wd_330 wd_24 wd_331 hd_X1_remove rfl ⟨Nat.le_of_ble_eq_true rfl, Nat.le_of_ble_eq_true rfl⟩ ⟨Nat.zero_le _, Nat.zero_le _⟩ rfl (Nat.le_of_ble_eq_true rfl) dX7_loseNow_41 (fun r m2 hE => ?_)
    obtain ⟨rfl, hV⟩ := hE
    refine kt_stv ?_
    exact kt_vret C ⟨rfl, hV⟩ dX7_loseNow_44
  · have hV := hV.2 a1 c1
    have hba1 := hV.1
    have hV := hV.2
    refine kt_ifnull C dX7_loseNow_4 ?_
    refine kt_aload_n C dX7_loseNow_7 rfl rfl ?_
    refine kt_get (ci := 7) C 2 (by decide) rfl rfl inlX7 (by decide) wd_21 rfl dX7_loseNow_8 ?_
    refine kt_aload_n C dX7_loseNow_11 rfl rfl ?_
    refine kt_get (ci := 6) C 4 h1 rfl rfl inlX6 (by decide) wd_304 rfl dX7_loseNow_12 ?_
    refine kt_refs c1 ?_
    refine kt_callV (n := 1) C (w_X3_putInFront hba1 hV) (by decide) rfl rfl wd_324 wd_325 wd_326 wd_20 wd_327 hd_X3_putInFront rfl ⟨Nat.le_of_ble_eq_true rfl, Nat.le_of_ble_eq_true rfl⟩ ⟨Nat.zero_le _, Nat.zero_le _⟩ rfl (Nat.le_of_ble_eq_true rfl) dX7_loseNow_15 (fun r m3 hE => ?_)
    obtain ⟨rfl, hV⟩ := hE
    refine kt_stv ?_
    refine kt_aload_n C dX7_loseNow_18 rfl rfl ?_
    refine kt_null C dX7_loseNow_19 ?_
    refine kt_putr (v := none) C h1 wd_304 dX7_loseNow_20 (fun m4 hm4 => ?_)
    have hV := hV m4 hm4
    refine kt_aload_n C dX7_loseNow_23 rfl rfl ?_
    refine kt_get (ci := 7) C 4 (by decide) rfl rfl inlX7 (by decide) wd_29 rfl dX7_loseNow_24 ?_
    refine kt_dup C dX7_loseNow_27 rfl ?_
    refine kt_get (ci := 5) C 5 (by decide) rfl rfl inlX5 (by decide) wd_323 rfl dX7_loseNow_28 ?_
    refine kt_iconst (v := 1) C dX7_loseNow_31 (by decide) ?_
    refine kt_iadd C dX7_loseNow_32 ?_
    refine kt_put3 (ty := .int) (ci := 5) C 5 (by decide) rfl rfl inlX5 tyX5_ok nmX5 (by decide) wd_323 rfl (by decide +kernel) rfl rfl (Nat.le_of_ble_eq_true rfl) (ep_10_5 _ _ _ _) dX7_loseNow_33 (fun m5 hm5 => ?_)
    have hV := hV m5 hm5
    refine kt_aload_n C dX7_loseNow_36 rfl rfl ?_
    refine kt_get (ci := 7) C 3 (by decide) rfl rfl inlX7 (by decide) wd_25 rfl dX7_loseNow_37 ?_
    refine kt_aload_n C dX7_loseNow_40 rfl rfl ?_
    refine kt_callV (n := 1) C (w_X1_remove h1 hV) (by decide) rfl rfl wd_328 wd_329 wd_330 wd_24 wd_331 hd_X1_remove rfl ⟨Nat.le_of_ble_eq_true rfl, Nat.le_of_ble_eq_true rfl⟩ ⟨Nat.zero_le _, Nat.zero_le _⟩ rfl (Nat.le_of_ble_eq_true rfl) dX7_loseNow_41 (fun r m6 hE => ?_)
    obtain ⟨rfl, hV⟩ := hE
    refine kt_stv ?_
    exact kt_vret C ⟨rfl, hV⟩ dX7_loseNow_44
theorem hd_X7_doNextAct : yX7_doNextAct.cls = RX7 ∧ yX7_doNextAct.cls ≠ "java/lang/invoke/MethodHandle" ∧ yX7_doNextAct.cls ≠ "java/lang/invoke/VarHandle" ∧ (parseMethodDescriptor yX7_doNextAct.desc).map (fun d => d.parameters.length) = some 2 := by decide +kernel
def V_X7_doNextAct (i1 : Nat) (i2 : Nat) (m : MW) (K : MW → Prop) : Prop := (((m.1.1 15 i1 5) < 0 → (K m)) ∧ (¬ (m.1.1 15 i1 5) < 0 → (((m.1.1 15 i1 5) < (m.1.1 11 i2 4) → (vp_in (m.1.1 15 i1 5) 8 ∧ (vp_in (m.1.1 15 i1 5) 8 ∧ (vp_in (m.1.1 15 i1 5) 8 ∧ (V_X0_doAct i1 ((m.1.1 12 i2 ((m.1.1 15 i1 5)).toNatClampNeg)) ((m.1.1 13 i2 ((m.1.1 15 i1 5)).toNatClampNeg)) ((m.1.1 14 i2 ((m.1.1 15 i1 5)).toNatClampNeg)) m (fun v2 m1 => (∀ m3 : MW, m3 = ((up3 m1.1.1 15 i1 5 ((m.1.1 15 i1 5) + 1), m1.1.2), m1.2) → ((¬ v2 = 0 → (V_X7_finish i1 i2 (v2) m3 (fun m4 => (K m4)))) ∧ (v2 = 0 → (((m3.1.1 15 i1 5) < (m3.1.1 11 i2 4) → (K m3)) ∧ (¬ (m3.1.1 15 i1 5) < (m3.1.1 11 i2 4) → (V_X7_finish i1 i2 (v2) m3 (fun m5 => (K m5)))))))))))))) ∧ (¬ (m.1.1 15 i1 5) < (m.1.1 11 i2 4) → (K m)))))
set_option maxHeartbeats 4000000 in
set_option maxRecDepth 100000 in
theorem w_X7_doNextAct {l : Launch} {g : GG} {i1 : Nat} {i2 : Nat} {m : MW} {K : MW → Prop} (h1 : i1 < 4) (h2 : i2 < 10) (hV : V_X7_doNextAct i1 i2  m K) : Ct l yX7_doNextAct cX7_doNextAct 5 none 3 73 [.ref (gad g 0 0), .ref (gad g 15 i1), .ref (gad g 11 i2)] g m (Ev K) := by
  refine ct_intro RX7 (by decide) rfl (Nat.le_of_ble_eq_true rfl) ?_
  intro p e s mi below meth c C
  unfold V_X7_doNextAct at hV
  refine kt_aload_n C dX7_doNextAct_0 rfl rfl ?_
  refine kt_get (ci := 6) C 5 h1 rfl rfl inlX6 (by decide) wd_365 rfl dX7_doNextAct_1 ?_
  refine kt_istore_n (lv' := [(3, .int _), (0, .ref _), (1, .ref _), (2, .ref _)]) C dX7_doNextAct_4 rfl (by decide) rfl ?_
  refine kt_iload_n C dX7_doNextAct_5 rfl rfl ?_
  refine kt_if_lt C 17 dX7_doNextAct_6 rfl (fun c6 => ?_) (fun c6 => ?_)
  · have hV := hV.1 c6
    exact kt_vret C ⟨rfl, hV⟩ dX7_doNextAct_17
  · have hV := hV.2 c6
    refine kt_iload_n C dX7_doNextAct_9 rfl rfl ?_
    refine kt_aload_n C dX7_doNextAct_10 rfl rfl ?_
    refine kt_get (ci := 4) C 4 h2 rfl rfl inlX4 (by decide) wd_169 rfl dX7_doNextAct_11 ?_
    refine kt_icmp_lt C 18 dX7_doNextAct_14 rfl (fun c14 => ?_) (fun c14 => ?_)
    · have hV := hV.1 c14
      refine kt_aload_n C dX7_doNextAct_18 rfl rfl ?_
      refine kt_get (ci := 6) C 1 h1 rfl rfl inlX6 (by decide) wd_353 rfl dX7_doNextAct_19 ?_
      refine kt_aload_n C dX7_doNextAct_22 rfl rfl ?_
      refine kt_get (ci := 4) C 0 h2 rfl rfl inlX4 (by decide) wd_366 rfl dX7_doNextAct_23 ?_
      refine kt_iload_n C dX7_doNextAct_26 rfl rfl ?_
      refine kt_iald C h2 rfl hV.1 dX7_doNextAct_27 ?_
      have hV := hV.2
      refine kt_aload_n C dX7_doNextAct_28 rfl rfl ?_
      refine kt_get (ci := 4) C 1 h2 rfl rfl inlX4 (by decide) wd_367 rfl dX7_doNextAct_29 ?_
      refine kt_iload_n C dX7_doNextAct_32 rfl rfl ?_
      refine kt_iald C h2 rfl hV.1 dX7_doNextAct_33 ?_
      have hV := hV.2
      refine kt_aload_n C dX7_doNextAct_34 rfl rfl ?_
      refine kt_get (ci := 4) C 2 h2 rfl rfl inlX4 (by decide) wd_368 rfl dX7_doNextAct_35 ?_
      refine kt_iload_n C dX7_doNextAct_38 rfl rfl ?_
      refine kt_iald C h2 rfl hV.1 dX7_doNextAct_39 ?_
      have hV := hV.2
      refine kt_aload_n C dX7_doNextAct_40 rfl rfl ?_
      refine kt_get (ci := 7) C 0 (by decide) rfl rfl inlX7 (by decide) wd_15 rfl dX7_doNextAct_41 ?_
      refine kt_callV (n := 4) C (w_X0_doAct h1 hV) h1 rfl rfl wd_369 wd_370 wd_371 wd_70 wd_372 hd_X0_doAct rfl ⟨Nat.le_of_ble_eq_true rfl, Nat.le_of_ble_eq_true rfl⟩ ⟨Nat.zero_le _, Nat.zero_le _⟩ rfl (Nat.le_of_ble_eq_true rfl) dX7_doNextAct_44 (fun r m1 hE => ?_)
      obtain ⟨v2, rfl, hV⟩ := hE
      refine kt_sti ?_
      refine kt_istore (lv' := [(4, .int _), (3, .int _), (0, .ref _), (1, .ref _), (2, .ref _)]) C dX7_doNextAct_47 (by decide) rfl ?_
      refine kt_aload_n C dX7_doNextAct_49 rfl rfl ?_
      refine kt_iload_n C dX7_doNextAct_50 rfl rfl ?_
      refine kt_iconst (v := 1) C dX7_doNextAct_51 (by decide) ?_
      refine kt_iadd C dX7_doNextAct_52 ?_
      refine kt_put3 (ty := .int) (ci := 6) C 5 h1 rfl rfl inlX6 tyX6_ok nmX6 (by decide) wd_365 rfl (by decide +kernel) rfl rfl (Nat.le_of_ble_eq_true rfl) (ep_15_5 _ _ _ _) dX7_doNextAct_53 (fun m3 hm3 => ?_)
      have hV := hV m3 hm3
      refine kt_iload C dX7_doNextAct_56 rfl ?_
      refine kt_if_ne C 72 dX7_doNextAct_58 rfl (fun c58 => ?_) (fun c58 => ?_)
      · have hV := hV.1 c58
        refine kt_aload_n C dX7_doNextAct_72 rfl rfl ?_
        refine kt_aload_n C dX7_doNextAct_73 rfl rfl ?_
        refine kt_aload_n C dX7_doNextAct_74 rfl rfl ?_
        refine kt_iload C dX7_doNextAct_75 rfl ?_
        refine kt_callV (n := 3) C (w_X7_finish h1 h2 hV) (by decide) rfl rfl wd_349 wd_350 wd_351 wd_2 wd_352 hd_X7_finish rfl ⟨Nat.le_of_ble_eq_true rfl, Nat.le_of_ble_eq_true rfl⟩ ⟨Nat.zero_le _, Nat.zero_le _⟩ rfl (Nat.le_of_ble_eq_true rfl) dX7_doNextAct_77 (fun r m4 hE => ?_)
        obtain ⟨rfl, hV⟩ := hE
        refine kt_stv ?_
        exact kt_vret C ⟨rfl, hV⟩ dX7_doNextAct_80
      · have hV := hV.2 c58
        refine kt_aload_n C dX7_doNextAct_61 rfl rfl ?_
        refine kt_get (ci := 6) C 5 h1 rfl rfl inlX6 (by decide) wd_365 rfl dX7_doNextAct_62 ?_
        refine kt_aload_n C dX7_doNextAct_65 rfl rfl ?_
        refine kt_get (ci := 4) C 4 h2 rfl rfl inlX4 (by decide) wd_169 rfl dX7_doNextAct_66 ?_
        refine kt_icmp_lt C 80 dX7_doNextAct_69 rfl (fun c69 => ?_) (fun c69 => ?_)
        · have hV := hV.1 c69
          exact kt_vret C ⟨rfl, hV⟩ dX7_doNextAct_80
        · have hV := hV.2 c69
          refine kt_aload_n C dX7_doNextAct_72 rfl rfl ?_
          refine kt_aload_n C dX7_doNextAct_73 rfl rfl ?_
          refine kt_aload_n C dX7_doNextAct_74 rfl rfl ?_
          refine kt_iload C dX7_doNextAct_75 rfl ?_
          refine kt_callV (n := 3) C (w_X7_finish h1 h2 hV) (by decide) rfl rfl wd_349 wd_350 wd_351 wd_2 wd_352 hd_X7_finish rfl ⟨Nat.le_of_ble_eq_true rfl, Nat.le_of_ble_eq_true rfl⟩ ⟨Nat.zero_le _, Nat.zero_le _⟩ rfl (Nat.le_of_ble_eq_true rfl) dX7_doNextAct_77 (fun r m5 hE => ?_)
          obtain ⟨rfl, hV⟩ := hE
          refine kt_stv ?_
          exact kt_vret C ⟨rfl, hV⟩ dX7_doNextAct_80
    · have hV := hV.2 c14
      exact kt_vret C ⟨rfl, hV⟩ dX7_doNextAct_17
theorem hd_X7_playTurn : yX7_playTurn.cls = RX7 ∧ yX7_playTurn.cls ≠ "java/lang/invoke/MethodHandle" ∧ yX7_playTurn.cls ≠ "java/lang/invoke/VarHandle" ∧ (parseMethodDescriptor yX7_playTurn.desc).map (fun d => d.parameters.length) = some 0 := by decide +kernel
def V_X7_playTurn (m : MW) (K : MW → Prop) : Prop := (V_X1_nextToMove   m (fun o2 m1 => ((o2 = none → (K m1)) ∧ (∀ a3 : Nat, o2 = some a3 → a3 < 4 ∧ (V_X6_isToBeLost a3 ((m1.1.1 8 0 3)) m1 (fun v5 m4 => ((v5 = 0 → ((m4.1.2 0 a3 = none → (V_X7_takeShare a3  m4 (fun m7 => (K m7)))) ∧ (∀ a6 : Nat, m4.1.2 0 a3 = some a6 → a6 < 10 ∧ (V_X7_doNextAct a3 a6  m4 (fun m8 => (K m8)))))) ∧ (¬ v5 = 0 → (V_X7_loseNow a3  m4 (fun m9 => (K m9)))))))))))
set_option maxHeartbeats 4000000 in
set_option maxRecDepth 100000 in
theorem w_X7_playTurn {l : Launch} {g : GG} {m : MW} {K : MW → Prop} (hV : V_X7_playTurn   m K) : Ct l yX7_playTurn cX7_playTurn 2 none 4 97 [.ref (gad g 0 0)] g m (Ev K) := by
  refine ct_intro RX7 (by decide) rfl (Nat.le_of_ble_eq_true rfl) ?_
  intro p e s mi below meth c C
  unfold V_X7_playTurn at hV
  refine kt_aload_n C dX7_playTurn_0 rfl rfl ?_
  refine kt_get (ci := 7) C 3 (by decide) rfl rfl inlX7 (by decide) wd_25 rfl dX7_playTurn_1 ?_
  refine kt_callV (n := 0) C (w_X1_nextToMove  hV) (by decide) rfl rfl wd_305 wd_306 wd_307 wd_24 wd_308 hd_X1_nextToMove rfl ⟨Nat.le_of_ble_eq_true rfl, Nat.le_of_ble_eq_true rfl⟩ ⟨Nat.zero_le _, Nat.zero_le _⟩ rfl (Nat.le_of_ble_eq_true rfl) dX7_playTurn_4 (fun r m1 hE => ?_)
  obtain ⟨o2, rfl, hV⟩ := hE
  refine kt_sti ?_
  refine kt_refo (fun c4 => ?_) (fun a3 c4 => ?_)
  · have hV := hV.1 c4
    refine kt_astore_nN (lv' := [(1, .null), (0, .ref _)]) C dX7_playTurn_7 rfl (by decide) rfl ?_
    refine kt_aload_nN C dX7_playTurn_8 rfl rfl ?_
    refine kt_ifnonnullN C dX7_playTurn_9 ?_
    exact kt_vret C ⟨rfl, hV⟩ dX7_playTurn_12
  · have hV := hV.2 a3 c4
    have hba3 := hV.1
    have hV := hV.2
    refine kt_astore_n (lv' := [(1, .ref _), (0, .ref _)]) C dX7_playTurn_7 rfl (by decide) rfl ?_
    refine kt_aload_n C dX7_playTurn_8 rfl rfl ?_
    refine kt_ifnonnull C 13 dX7_playTurn_9 rfl ?_
    refine kt_aload_n C dX7_playTurn_13 rfl rfl ?_
    refine kt_aload_n C dX7_playTurn_14 rfl rfl ?_
    refine kt_get (ci := 7) C 3 (by decide) rfl rfl inlX7 (by decide) wd_25 rfl dX7_playTurn_15 ?_
    refine kt_get (ci := 1) C 3 (by decide) rfl rfl inlX1 (by decide) wd_303 rfl dX7_playTurn_18 ?_
    refine kt_callV (n := 1) C (w_X6_isToBeLost hba3 hV) hba3 rfl rfl wd_315 wd_316 wd_317 wd_63 wd_318 hd_X6_isToBeLost rfl ⟨Nat.le_of_ble_eq_true rfl, Nat.le_of_ble_eq_true rfl⟩ ⟨Nat.zero_le _, Nat.zero_le _⟩ rfl (Nat.le_of_ble_eq_true rfl) dX7_playTurn_21 (fun r m4 hE => ?_)
    obtain ⟨v5, rfl, hV⟩ := hE
    refine kt_sti ?_
    refine kt_if_eq C 35 dX7_playTurn_24 rfl (fun c24 => ?_) (fun c24 => ?_)
    · have hV := hV.1 c24
      refine kt_aload_n C dX7_playTurn_35 rfl rfl ?_
      refine kt_get (ci := 6) C 4 hba3 rfl rfl inlX6 (by decide) wd_304 rfl dX7_playTurn_36 ?_
      refine kt_refo (fun c36 => ?_) (fun a6 c36 => ?_)
      · have hV := hV.1 c36
        refine kt_ifnonnullN C dX7_playTurn_39 ?_
        refine kt_aload_n C dX7_playTurn_42 rfl rfl ?_
        refine kt_aload_n C dX7_playTurn_43 rfl rfl ?_
        refine kt_callV (n := 1) C (w_X7_takeShare hba3 hV) (by decide) rfl rfl wd_332 wd_333 wd_334 wd_2 wd_335 hd_X7_takeShare rfl ⟨Nat.le_of_ble_eq_true rfl, Nat.le_of_ble_eq_true rfl⟩ ⟨Nat.zero_le _, Nat.zero_le _⟩ rfl (Nat.le_of_ble_eq_true rfl) dX7_playTurn_44 (fun r m7 hE => ?_)
        obtain ⟨rfl, hV⟩ := hE
        refine kt_stv ?_
        refine kt_goto C 59 dX7_playTurn_47 rfl ?_
        exact kt_vret C ⟨rfl, hV⟩ dX7_playTurn_59
      · have hV := hV.2 a6 c36
        have hba6 := hV.1
        have hV := hV.2
        refine kt_ifnonnull C 50 dX7_playTurn_39 rfl ?_
        refine kt_aload_n C dX7_playTurn_50 rfl rfl ?_
        refine kt_aload_n C dX7_playTurn_51 rfl rfl ?_
        refine kt_aload_n C dX7_playTurn_52 rfl rfl ?_
        refine kt_get (ci := 6) C 4 hba3 rfl rfl inlX6 (by decide) wd_304 rfl dX7_playTurn_53 ?_
        refine kt_refs c36 ?_
        refine kt_callV (n := 2) C (w_X7_doNextAct hba3 hba6 hV) (by decide) rfl rfl wd_361 wd_362 wd_363 wd_2 wd_364 hd_X7_doNextAct rfl ⟨Nat.le_of_ble_eq_true rfl, Nat.le_of_ble_eq_true rfl⟩ ⟨Nat.zero_le _, Nat.zero_le _⟩ rfl (Nat.le_of_ble_eq_true rfl) dX7_playTurn_56 (fun r m8 hE => ?_)
        obtain ⟨rfl, hV⟩ := hE
        refine kt_stv ?_
        exact kt_vret C ⟨rfl, hV⟩ dX7_playTurn_59
    · have hV := hV.2 c24
      refine kt_aload_n C dX7_playTurn_27 rfl rfl ?_
      refine kt_aload_n C dX7_playTurn_28 rfl rfl ?_
      refine kt_callV (n := 1) C (w_X7_loseNow hba3 hV) (by decide) rfl rfl wd_319 wd_320 wd_321 wd_2 wd_322 hd_X7_loseNow rfl ⟨Nat.le_of_ble_eq_true rfl, Nat.le_of_ble_eq_true rfl⟩ ⟨Nat.zero_le _, Nat.zero_le _⟩ rfl (Nat.le_of_ble_eq_true rfl) dX7_playTurn_29 (fun r m9 hE => ?_)
      obtain ⟨rfl, hV⟩ := hE
      refine kt_stv ?_
      refine kt_goto C 59 dX7_playTurn_32 rfl ?_
      exact kt_vret C ⟨rfl, hV⟩ dX7_playTurn_59
theorem hd_X7_beginRound : yX7_beginRound.cls = RX7 ∧ yX7_beginRound.cls ≠ "java/lang/invoke/MethodHandle" ∧ yX7_beginRound.cls ≠ "java/lang/invoke/VarHandle" ∧ (parseMethodDescriptor yX7_beginRound.desc).map (fun d => d.parameters.length) = some 0 := by decide +kernel
def V_X7_beginRound_17 (n : Nat) (y1 : Int32) (m : MW) (K : MW → Prop) : Prop := match n with
  | 0 => False
  | n + 1 => (((m.1.1 0 0 5) ≤ y1 → (∀ m2 : MW, m2 = ((up3 m.1.1 0 0 6 (m.1.1 0 0 5), m.1.2), m.2) → (K m2))) ∧ (¬ (m.1.1 0 0 5) ≤ y1 → (vp_in y1 10 ∧ (∀ m4 : MW, m4 = ((up3 m.1.1 11 (y1).toNatClampNeg 5 (-2000000), m.1.2), m.2) → (V_X7_beginRound_17 n  ((y1 + 1)) m4 K)))))
def V_X7_beginRound (m : MW) (K : MW → Prop) : Prop := (V_X3_fill  ((m.1.1 0 0 5)) m (fun m1 => (∃ k : Nat, V_X7_beginRound_17 k  (0) m1 K)))
set_option maxHeartbeats 4000000 in
set_option maxRecDepth 100000 in
theorem w_X7_beginRound_17 {p : Program} {l : Launch} {e : Env} {s : State} {mi : MethodId} {args : Array Value} {below : List Frame} {meth : Method} {c : Code} {g : GG} {K : MW → Prop} (C : Cx p s mi args meth c cX7_beginRound RX7 2 none g) (n : Nat) : ∀ {y1 : Int32} {m : MW}, V_X7_beginRound_17 n  y1 m K → TT p l e { frames := 2, cells := 0, slots := 0, locals := 48 } s mi args below meth c 0 0 (MQ below (QE g (Ev K)) args s 0 0 (gA g)) g 2 m 17 [(0, .ref (gad g 0 0)), (1, .int (y1))] [] := by
  induction n with
  | zero => intros; rename_i hV; exact absurd hV (by simp [V_X7_beginRound_17])
  | succ n ih =>
    intro y1 m hV
    unfold V_X7_beginRound_17 at hV
    refine kt_iload_n C dX7_beginRound_17 rfl rfl ?_
    refine kt_aload_n C dX7_beginRound_18 rfl rfl ?_
    refine kt_get (ci := 7) C 5 (by decide) rfl rfl inlX7 (by decide) wd_30 rfl dX7_beginRound_19 ?_
    refine kt_icmp_ge C 42 dX7_beginRound_22 rfl (fun c22 => ?_) (fun c22 => ?_)
    · have hV := hV.1 c22
      refine kt_aload_n C dX7_beginRound_42 rfl rfl ?_
      refine kt_aload_n C dX7_beginRound_43 rfl rfl ?_
      refine kt_get (ci := 7) C 5 (by decide) rfl rfl inlX7 (by decide) wd_30 rfl dX7_beginRound_44 ?_
      refine kt_put3 (ty := .int) (ci := 7) C 6 (by decide) rfl rfl inlX7 tyX7_ok nmX7 (by decide) wd_31 rfl (by decide +kernel) rfl rfl (Nat.le_of_ble_eq_true rfl) (ep_0_6 _ _ _ _) dX7_beginRound_47 (fun m2 hm2 => ?_)
      have hV := hV m2 hm2
      exact kt_vret C ⟨rfl, hV⟩ dX7_beginRound_50
    · have hV := hV.2 c22
      refine kt_aload_n C dX7_beginRound_25 rfl rfl ?_
      refine kt_get (ci := 7) C 1 (by decide) rfl rfl inlX7 (by decide) wd_17 rfl dX7_beginRound_26 ?_
      refine kt_iload_n C dX7_beginRound_29 rfl rfl ?_
      have hb3 := vp_lt hV.1
      refine kt_aldS C (by decide) rfl hV.1 dX7_beginRound_30 ?_
      have hV := hV.2
      refine kt_ldc (v := (-2000000)) C wd_214 dX7_beginRound_31 ?_
      refine kt_put3 (ty := .int) (ci := 4) C 5 hb3 rfl rfl inlX4 tyX4_ok nmX4 (by decide) wd_290 rfl (by decide +kernel) rfl rfl (Nat.le_of_ble_eq_true rfl) (ep_11_5 _ _ _ _) dX7_beginRound_33 (fun m4 hm4 => ?_)
      have hV := hV m4 hm4
      refine kt_iinc (v := _ + 1) (lv' := [(1, .int _), (0, .ref _)]) C dX7_beginRound_36 rfl rfl (by decide) rfl ?_
      refine kt_goto C 17 dX7_beginRound_39 rfl ?_
      refine kt_pick (lv' := [(0, .ref _), (1, .int _)]) [1, 0] rfl ?_
      exact ih  hV
set_option maxHeartbeats 4000000 in
set_option maxRecDepth 100000 in
theorem w_X7_beginRound {l : Launch} {g : GG} {m : MW} {K : MW → Prop} (hV : V_X7_beginRound   m K) : Ct l yX7_beginRound cX7_beginRound 2 none 2 48 [.ref (gad g 0 0)] g m (Ev K) := by
  refine ct_intro RX7 (by decide) rfl (Nat.le_of_ble_eq_true rfl) ?_
  intro p e s mi below meth c C
  unfold V_X7_beginRound at hV
  refine kt_aload_n C dX7_beginRound_0 rfl rfl ?_
  refine kt_get (ci := 7) C 2 (by decide) rfl rfl inlX7 (by decide) wd_21 rfl dX7_beginRound_1 ?_
  refine kt_aload_n C dX7_beginRound_4 rfl rfl ?_
  refine kt_get (ci := 7) C 1 (by decide) rfl rfl inlX7 (by decide) wd_17 rfl dX7_beginRound_5 ?_
  refine kt_aload_n C dX7_beginRound_8 rfl rfl ?_
  refine kt_get (ci := 7) C 5 (by decide) rfl rfl inlX7 (by decide) wd_30 rfl dX7_beginRound_9 ?_
  refine kt_callV (n := 2) C (w_X3_fill  hV) (by decide) rfl rfl wd_291 wd_292 wd_293 wd_20 wd_294 hd_X3_fill rfl ⟨Nat.le_of_ble_eq_true rfl, Nat.le_of_ble_eq_true rfl⟩ ⟨Nat.zero_le _, Nat.zero_le _⟩ rfl (Nat.le_of_ble_eq_true rfl) dX7_beginRound_12 (fun r m1 hE => ?_)
  obtain ⟨rfl, hV⟩ := hE
  refine kt_stv ?_
  refine kt_iconst (v := 0) C dX7_beginRound_15 (by decide) ?_
  refine kt_istore_n (lv' := [(1, .int _), (0, .ref _)]) C dX7_beginRound_16 rfl (by decide) rfl ?_
  obtain ⟨k, hV⟩ := hV
  refine kt_pick (lv' := [(0, .ref _), (1, .int _)]) [1, 0] rfl ?_
  exact w_X7_beginRound_17 C  k hV
theorem hd_X7_leastSpoilt : yX7_leastSpoilt.cls = RX7 ∧ yX7_leastSpoilt.cls ≠ "java/lang/invoke/MethodHandle" ∧ yX7_leastSpoilt.cls ≠ "java/lang/invoke/VarHandle" ∧ (parseMethodDescriptor yX7_leastSpoilt.desc).map (fun d => d.parameters.length) = some 0 := by decide +kernel
def V_X7_leastSpoilt_2 (n : Nat) (y1 : Int32) (m : MW) (K : Int32 → MW → Prop) : Prop := match n with
  | 0 => False
  | n + 1 => (((m.1.1 0 0 5) ≤ y1 → (K (-2000000) m)) ∧ (¬ (m.1.1 0 0 5) ≤ y1 → (vp_in y1 10 ∧ (((m.1.1 11 (y1).toNatClampNeg 6) = 0 → (V_X7_leastSpoilt_2 n  ((y1 + 1)) m K)) ∧ (¬ (m.1.1 11 (y1).toNatClampNeg 6) = 0 → (K y1 m))))))
def V_X7_leastSpoilt (m : MW) (K : Int32 → MW → Prop) : Prop := (∃ k : Nat, V_X7_leastSpoilt_2 k  (0) m K)
set_option maxHeartbeats 4000000 in
set_option maxRecDepth 100000 in
theorem w_X7_leastSpoilt_2 {p : Program} {l : Launch} {e : Env} {s : State} {mi : MethodId} {args : Array Value} {below : List Frame} {meth : Method} {c : Code} {g : GG} {K : Int32 → MW → Prop} (C : Cx p s mi args meth c cX7_leastSpoilt RX7 2 (some .int) g) (n : Nat) : ∀ {y1 : Int32} {m : MW}, V_X7_leastSpoilt_2 n  y1 m K → TT p l e { frames := 0, cells := 0, slots := 0, locals := 0 } s mi args below meth c 0 0 (MQ below (QE g (Ei K)) args s 0 0 (gA g)) g 2 m 2 [(0, .ref (gad g 0 0)), (1, .int (y1))] [] := by
  induction n with
  | zero => intros; rename_i hV; exact absurd hV (by simp [V_X7_leastSpoilt_2])
  | succ n ih =>
    intro y1 m hV
    unfold V_X7_leastSpoilt_2 at hV
    refine kt_iload_n C dX7_leastSpoilt_2 rfl rfl ?_
    refine kt_aload_n C dX7_leastSpoilt_3 rfl rfl ?_
    refine kt_get (ci := 7) C 5 (by decide) rfl rfl inlX7 (by decide) wd_30 rfl dX7_leastSpoilt_4 ?_
    refine kt_icmp_ge C 30 dX7_leastSpoilt_7 rfl (fun c7 => ?_) (fun c7 => ?_)
    · have hV := hV.1 c7
      refine kt_ldc (v := (-2000000)) C wd_214 dX7_leastSpoilt_30 ?_
      exact kt_iret C ⟨_, rfl, hV⟩ dX7_leastSpoilt_32
    · have hV := hV.2 c7
      refine kt_aload_n C dX7_leastSpoilt_10 rfl rfl ?_
      refine kt_get (ci := 7) C 1 (by decide) rfl rfl inlX7 (by decide) wd_17 rfl dX7_leastSpoilt_11 ?_
      refine kt_iload_n C dX7_leastSpoilt_14 rfl rfl ?_
      have hb1 := vp_lt hV.1
      refine kt_aldS C (by decide) rfl hV.1 dX7_leastSpoilt_15 ?_
      have hV := hV.2
      refine kt_get (ci := 4) C 6 hb1 rfl rfl inlX4 (by decide) wd_282 rfl dX7_leastSpoilt_16 ?_
      refine kt_if_eq C 24 dX7_leastSpoilt_19 rfl (fun c19 => ?_) (fun c19 => ?_)
      · have hV := hV.1 c19
        refine kt_iinc (v := _ + 1) (lv' := [(1, .int _), (0, .ref _)]) C dX7_leastSpoilt_24 rfl rfl (by decide) rfl ?_
        refine kt_goto C 2 dX7_leastSpoilt_27 rfl ?_
        refine kt_pick (lv' := [(0, .ref _), (1, .int _)]) [1, 0] rfl ?_
        exact ih  hV
      · have hV := hV.2 c19
        refine kt_iload_n C dX7_leastSpoilt_22 rfl rfl ?_
        exact kt_iret C ⟨_, rfl, hV⟩ dX7_leastSpoilt_23
set_option maxHeartbeats 4000000 in
set_option maxRecDepth 100000 in
theorem w_X7_leastSpoilt {l : Launch} {g : GG} {m : MW} {K : Int32 → MW → Prop} (hV : V_X7_leastSpoilt   m K) : Ct l yX7_leastSpoilt cX7_leastSpoilt 2 (some .int) 0 0 [.ref (gad g 0 0)] g m (Ei K) := by
  refine ct_intro RX7 (by decide) rfl (Nat.le_of_ble_eq_true rfl) ?_
  intro p e s mi below meth c C
  unfold V_X7_leastSpoilt at hV
  refine kt_iconst (v := 0) C dX7_leastSpoilt_0 (by decide) ?_
  refine kt_istore_n (lv' := [(1, .int _), (0, .ref _)]) C dX7_leastSpoilt_1 rfl (by decide) rfl ?_
  obtain ⟨k, hV⟩ := hV
  refine kt_pick (lv' := [(0, .ref _), (1, .int _)]) [1, 0] rfl ?_
  exact w_X7_leastSpoilt_2 C  k hV
theorem hd_X7_actsOfAllShares : yX7_actsOfAllShares.cls = RX7 ∧ yX7_actsOfAllShares.cls ≠ "java/lang/invoke/MethodHandle" ∧ yX7_actsOfAllShares.cls ≠ "java/lang/invoke/VarHandle" ∧ (parseMethodDescriptor yX7_actsOfAllShares.desc).map (fun d => d.parameters.length) = some 0 := by decide +kernel
def V_X7_actsOfAllShares_4 (n : Nat) (y1 : Int32) (y2 : Int32) (m : MW) (K : Int32 → MW → Prop) : Prop := match n with
  | 0 => False
  | n + 1 => (((m.1.1 0 0 5) ≤ y2 → (K y1 m)) ∧ (¬ (m.1.1 0 0 5) ≤ y2 → (vp_in y2 10 ∧ (V_X7_actsOfAllShares_4 n  ((y1 + (m.1.1 11 (y2).toNatClampNeg 4))) ((y2 + 1)) m K))))
def V_X7_actsOfAllShares (m : MW) (K : Int32 → MW → Prop) : Prop := (∃ k : Nat, V_X7_actsOfAllShares_4 k  (0) (0) m K)
set_option maxHeartbeats 4000000 in
set_option maxRecDepth 100000 in
theorem w_X7_actsOfAllShares_4 {p : Program} {l : Launch} {e : Env} {s : State} {mi : MethodId} {args : Array Value} {below : List Frame} {meth : Method} {c : Code} {g : GG} {K : Int32 → MW → Prop} (C : Cx p s mi args meth c cX7_actsOfAllShares RX7 3 (some .int) g) (n : Nat) : ∀ {y1 : Int32} {y2 : Int32} {m : MW}, V_X7_actsOfAllShares_4 n  y1 y2 m K → TT p l e { frames := 0, cells := 0, slots := 0, locals := 0 } s mi args below meth c 0 0 (MQ below (QE g (Ei K)) args s 0 0 (gA g)) g 3 m 4 [(0, .ref (gad g 0 0)), (1, .int (y1)), (2, .int (y2))] [] := by
  induction n with
  | zero => intros; rename_i hV; exact absurd hV (by simp [V_X7_actsOfAllShares_4])
  | succ n ih =>
    intro y1 y2 m hV
    unfold V_X7_actsOfAllShares_4 at hV
    refine kt_iload_n C dX7_actsOfAllShares_4 rfl rfl ?_
    refine kt_aload_n C dX7_actsOfAllShares_5 rfl rfl ?_
    refine kt_get (ci := 7) C 5 (by decide) rfl rfl inlX7 (by decide) wd_30 rfl dX7_actsOfAllShares_6 ?_
    refine kt_icmp_ge C 30 dX7_actsOfAllShares_9 rfl (fun c9 => ?_) (fun c9 => ?_)
    · have hV := hV.1 c9
      refine kt_iload_n C dX7_actsOfAllShares_30 rfl rfl ?_
      exact kt_iret C ⟨_, rfl, hV⟩ dX7_actsOfAllShares_31
    · have hV := hV.2 c9
      refine kt_iload_n C dX7_actsOfAllShares_12 rfl rfl ?_
      refine kt_aload_n C dX7_actsOfAllShares_13 rfl rfl ?_
      refine kt_get (ci := 7) C 1 (by decide) rfl rfl inlX7 (by decide) wd_17 rfl dX7_actsOfAllShares_14 ?_
      refine kt_iload_n C dX7_actsOfAllShares_17 rfl rfl ?_
      have hb1 := vp_lt hV.1
      refine kt_aldS C (by decide) rfl hV.1 dX7_actsOfAllShares_18 ?_
      have hV := hV.2
      refine kt_get (ci := 4) C 4 hb1 rfl rfl inlX4 (by decide) wd_169 rfl dX7_actsOfAllShares_19 ?_
      refine kt_iadd C dX7_actsOfAllShares_22 ?_
      refine kt_istore_n (lv' := [(1, .int _), (0, .ref _), (2, .int _)]) C dX7_actsOfAllShares_23 rfl (by decide) rfl ?_
      refine kt_iinc (v := _ + 1) (lv' := [(2, .int _), (1, .int _), (0, .ref _)]) C dX7_actsOfAllShares_24 rfl rfl (by decide) rfl ?_
      refine kt_goto C 4 dX7_actsOfAllShares_27 rfl ?_
      refine kt_pick (lv' := [(0, .ref _), (1, .int _), (2, .int _)]) [2, 1, 0] rfl ?_
      exact ih  hV
set_option maxHeartbeats 4000000 in
set_option maxRecDepth 100000 in
theorem w_X7_actsOfAllShares {l : Launch} {g : GG} {m : MW} {K : Int32 → MW → Prop} (hV : V_X7_actsOfAllShares   m K) : Ct l yX7_actsOfAllShares cX7_actsOfAllShares 3 (some .int) 0 0 [.ref (gad g 0 0)] g m (Ei K) := by
  refine ct_intro RX7 (by decide) rfl (Nat.le_of_ble_eq_true rfl) ?_
  intro p e s mi below meth c C
  unfold V_X7_actsOfAllShares at hV
  refine kt_iconst (v := 0) C dX7_actsOfAllShares_0 (by decide) ?_
  refine kt_istore_n (lv' := [(1, .int _), (0, .ref _)]) C dX7_actsOfAllShares_1 rfl (by decide) rfl ?_
  refine kt_iconst (v := 0) C dX7_actsOfAllShares_2 (by decide) ?_
  refine kt_istore_n (lv' := [(2, .int _), (1, .int _), (0, .ref _)]) C dX7_actsOfAllShares_3 rfl (by decide) rfl ?_
  obtain ⟨k, hV⟩ := hV
  refine kt_pick (lv' := [(0, .ref _), (1, .int _), (2, .int _)]) [2, 1, 0] rfl ?_
  exact w_X7_actsOfAllShares_4 C  k hV
theorem hd_X7_joinAnswers : yX7_joinAnswers.cls = RX7 ∧ yX7_joinAnswers.cls ≠ "java/lang/invoke/MethodHandle" ∧ yX7_joinAnswers.cls ≠ "java/lang/invoke/VarHandle" ∧ (parseMethodDescriptor yX7_joinAnswers.desc).map (fun d => d.parameters.length) = some 1 := by decide +kernel
def V_X7_joinAnswers_4 (n : Nat) (y1 : Int32) (y2 : Int32) (y3 : Int32) (m : MW) (K : Int32 → MW → Prop) : Prop := match n with
  | 0 => False
  | n + 1 => (((m.1.1 0 0 5) ≤ y3 → ((y2 = 0 ∨ y2 = 1) ∧ K y2 m)) ∧ (¬ (m.1.1 0 0 5) ≤ y3 → (vp_in y3 10 ∧ (V_X2_join (y3).toNatClampNeg (y1) m (fun v3 m2 => ((v3 = 0 → (V_X7_joinAnswers_4 n  (y1) (y2) ((y3 + 1)) m2 K)) ∧ (¬ v3 = 0 → (V_X7_joinAnswers_4 n  (y1) (1) ((y3 + 1)) m2 K))))))))
def V_X7_joinAnswers (x1 : Int32) (m : MW) (K : Int32 → MW → Prop) : Prop := (∃ k : Nat, V_X7_joinAnswers_4 k  (x1) (0) (0) m K)
set_option maxHeartbeats 4000000 in
set_option maxRecDepth 100000 in
theorem w_X7_joinAnswers_4 {p : Program} {l : Launch} {e : Env} {s : State} {mi : MethodId} {args : Array Value} {below : List Frame} {meth : Method} {c : Code} {g : GG} {K : Int32 → MW → Prop} (C : Cx p s mi args meth c cX7_joinAnswers RX7 4 (some .boolean) g) (n : Nat) : ∀ {y1 : Int32} {y2 : Int32} {y3 : Int32} {m : MW}, V_X7_joinAnswers_4 n  y1 y2 y3 m K → TT p l e { frames := 3, cells := 0, slots := 0, locals := 68 } s mi args below meth c 0 0 (MQ below (QE g (Ei K)) args s 0 0 (gA g)) g 4 m 4 [(0, .ref (gad g 0 0)), (1, .int (y1)), (2, .int (y2)), (3, .int (y3))] [] := by
  induction n with
  | zero => intros; rename_i hV; exact absurd hV (by simp [V_X7_joinAnswers_4])
  | succ n ih =>
    intro y1 y2 y3 m hV
    unfold V_X7_joinAnswers_4 at hV
    refine kt_iload_n C dX7_joinAnswers_4 rfl rfl ?_
    refine kt_aload_n C dX7_joinAnswers_5 rfl rfl ?_
    refine kt_get (ci := 7) C 5 (by decide) rfl rfl inlX7 (by decide) wd_30 rfl dX7_joinAnswers_6 ?_
    refine kt_icmp_ge C 37 dX7_joinAnswers_9 rfl (fun c9 => ?_) (fun c9 => ?_)
    · have hV := hV.1 c9
      refine kt_iload_n C dX7_joinAnswers_37 rfl rfl ?_
      exact kt_bret C hV.1 ⟨_, rfl, hV.2⟩ dX7_joinAnswers_38
    · have hV := hV.2 c9
      refine kt_aload_n C dX7_joinAnswers_12 rfl rfl ?_
      refine kt_get (ci := 7) C 0 (by decide) rfl rfl inlX7 (by decide) wd_15 rfl dX7_joinAnswers_13 ?_
      refine kt_aload_n C dX7_joinAnswers_16 rfl rfl ?_
      refine kt_get (ci := 7) C 1 (by decide) rfl rfl inlX7 (by decide) wd_17 rfl dX7_joinAnswers_17 ?_
      refine kt_iload_n C dX7_joinAnswers_20 rfl rfl ?_
      have hb1 := vp_lt hV.1
      refine kt_aldS C (by decide) rfl hV.1 dX7_joinAnswers_21 ?_
      have hV := hV.2
      refine kt_iload_n C dX7_joinAnswers_22 rfl rfl ?_
      refine kt_callV (n := 2) C (w_X2_join hb1 hV) (by decide) rfl rfl wd_425 wd_426 wd_427 wd_14 wd_428 hd_X2_join rfl ⟨Nat.le_of_ble_eq_true rfl, Nat.le_of_ble_eq_true rfl⟩ ⟨Nat.zero_le _, Nat.zero_le _⟩ rfl (Nat.le_of_ble_eq_true rfl) dX7_joinAnswers_23 (fun r m2 hE => ?_)
      obtain ⟨v3, rfl, hV⟩ := hE
      refine kt_sti ?_
      refine kt_if_eq C 31 dX7_joinAnswers_26 rfl (fun c26 => ?_) (fun c26 => ?_)
      · have hV := hV.1 c26
        refine kt_iinc (v := _ + 1) (lv' := [(3, .int _), (0, .ref _), (1, .int _), (2, .int _)]) C dX7_joinAnswers_31 rfl rfl (by decide) rfl ?_
        refine kt_goto C 4 dX7_joinAnswers_34 rfl ?_
        refine kt_pick (lv' := [(0, .ref _), (1, .int _), (2, .int _), (3, .int _)]) [1, 2, 3, 0] rfl ?_
        exact ih  hV
      · have hV := hV.2 c26
        refine kt_iconst (v := 1) C dX7_joinAnswers_29 (by decide) ?_
        refine kt_istore_n (lv' := [(2, .int _), (0, .ref _), (1, .int _), (3, .int _)]) C dX7_joinAnswers_30 rfl (by decide) rfl ?_
        refine kt_iinc (v := _ + 1) (lv' := [(3, .int _), (2, .int _), (0, .ref _), (1, .int _)]) C dX7_joinAnswers_31 rfl rfl (by decide) rfl ?_
        refine kt_goto C 4 dX7_joinAnswers_34 rfl ?_
        refine kt_pick (lv' := [(0, .ref _), (1, .int _), (2, .int _), (3, .int _)]) [2, 3, 1, 0] rfl ?_
        exact ih  hV
set_option maxHeartbeats 4000000 in
set_option maxRecDepth 100000 in
theorem w_X7_joinAnswers {l : Launch} {g : GG} {x1 : Int32} {m : MW} {K : Int32 → MW → Prop} (hV : V_X7_joinAnswers  x1 m K) : Ct l yX7_joinAnswers cX7_joinAnswers 4 (some .boolean) 3 68 [.ref (gad g 0 0), .int x1] g m (Ei K) := by
  refine ct_intro RX7 (by decide) rfl (Nat.le_of_ble_eq_true rfl) ?_
  intro p e s mi below meth c C
  unfold V_X7_joinAnswers at hV
  refine kt_iconst (v := 0) C dX7_joinAnswers_0 (by decide) ?_
  refine kt_istore_n (lv' := [(2, .int _), (0, .ref _), (1, .int _)]) C dX7_joinAnswers_1 rfl (by decide) rfl ?_
  refine kt_iconst (v := 0) C dX7_joinAnswers_2 (by decide) ?_
  refine kt_istore_n (lv' := [(3, .int _), (2, .int _), (0, .ref _), (1, .int _)]) C dX7_joinAnswers_3 rfl (by decide) rfl ?_
  obtain ⟨k, hV⟩ := hV
  refine kt_pick (lv' := [(0, .ref _), (1, .int _), (2, .int _), (3, .int _)]) [2, 3, 1, 0] rfl ?_
  exact w_X7_joinAnswers_4 C  k hV
theorem hd_X7_playRound : yX7_playRound.cls = RX7 ∧ yX7_playRound.cls ≠ "java/lang/invoke/MethodHandle" ∧ yX7_playRound.cls ≠ "java/lang/invoke/VarHandle" ∧ (parseMethodDescriptor yX7_playRound.desc).map (fun d => d.parameters.length) = some 1 := by decide +kernel
def V_X7_playRound_39 (y1 : Int32) (y2 : Int32) (m : MW) (K : Int32 → MW → Prop) : Prop := (((m.1.1 0 0 6) ≤ 0 → (V_X7_leastSpoilt   m (fun v3 m2 => ((v3 = (-2000000) → (V_X7_actsOfAllShares   m2 (fun v5 m4 => ((((m2.1.1 10 0 3) + v5) ≤ (m4.1.1 0 0 8) → (∀ m6 : MW, m6 = ((up3 m4.1.1 10 0 3 ((m2.1.1 10 0 3) + v5), m4.1.2), m4.2) → (∀ m7 : MW, m7 = ((up3 m6.1.1 10 0 0 ((m6.1.1 10 0 0) + 1), m6.1.2), m6.2) → ((y1 < (m7.1.1 0 0 7) → (V_X7_joinAnswers  (0) m7 (fun v9 m8 => ((v9 = 0 → (K 0 m8)) ∧ (¬ v9 = 0 → (K 1 m8)))))) ∧ (¬ y1 < (m7.1.1 0 0 7) → (V_X7_joinAnswers  (1) m7 (fun v11 m10 => ((v11 = 0 → (K 0 m10)) ∧ (¬ v11 = 0 → (K 1 m10)))))))))) ∧ (¬ ((m2.1.1 10 0 3) + v5) ≤ (m4.1.1 0 0 8) → (K 4 m4)))))) ∧ (¬ v3 = (-2000000) → (∀ m12 : MW, m12 = ((up3 m2.1.1 10 0 1 v3, m2.1.2), m2.2) → (vp_in v3 10 ∧ (∀ m14 : MW, m14 = ((up3 m12.1.1 10 0 2 (m12.1.1 11 (v3).toNatClampNeg 6), m12.1.2), m12.2) → (K 2 m14))))))))) ∧ (¬ (m.1.1 0 0 6) ≤ 0 → (K 3 m)))
def V_X7_playRound_6 (n : Nat) (y1 : Int32) (y2 : Int32) (m : MW) (K : Int32 → MW → Prop) : Prop := match n with
  | 0 => False
  | n + 1 => (((1000000) ≤ y2 → (V_X7_playRound_39  (y1) (y2) m K)) ∧ (¬ (1000000) ≤ y2 → (((m.1.1 0 0 6) ≤ 0 → (V_X7_playRound_39  (y1) (y2) m K)) ∧ (¬ (m.1.1 0 0 6) ≤ 0 → (((m.1.1 8 0 1) ≤ 0 → (V_X7_playRound_39  (y1) (y2) m K)) ∧ (¬ (m.1.1 8 0 1) ≤ 0 → (V_X7_playTurn   m (fun m15 => (V_X7_playRound_6 n  (y1) ((y2 + 1)) m15 K)))))))))
def V_X7_playRound (x1 : Int32) (m : MW) (K : Int32 → MW → Prop) : Prop := (V_X7_beginRound   m (fun m1 => (∃ k : Nat, V_X7_playRound_6 k  (x1) (0) m1 K)))
set_option maxHeartbeats 4000000 in
set_option maxRecDepth 100000 in
theorem w_X7_playRound_39 {p : Program} {l : Launch} {e : Env} {s : State} {mi : MethodId} {args : Array Value} {below : List Frame} {meth : Method} {c : Code} {g : GG} {K : Int32 → MW → Prop} (C : Cx p s mi args meth c cX7_playRound RX7 4 (some .int) g) {y1 : Int32} {y2 : Int32} {m : MW} (hV : V_X7_playRound_39  y1 y2 m K) : TT p l e { frames := 5, cells := 0, slots := 0, locals := 118 } s mi args below meth c 0 0 (MQ below (QE g (Ei K)) args s 0 0 (gA g)) g 4 m 39 [(0, .ref (gad g 0 0)), (1, .int (y1)), (2, .int (y2))] [] := by
  unfold V_X7_playRound_39 at hV
  refine kt_aload_n C dX7_playRound_39 rfl rfl ?_
  refine kt_get (ci := 7) C 6 (by decide) rfl rfl inlX7 (by decide) wd_31 rfl dX7_playRound_40 ?_
  refine kt_if_le C 48 dX7_playRound_43 rfl (fun c43 => ?_) (fun c43 => ?_)
  · have hV := hV.1 c43
    refine kt_aload_n C dX7_playRound_48 rfl rfl ?_
    refine kt_callV (n := 0) C (w_X7_leastSpoilt  hV) (by decide) rfl rfl wd_413 wd_414 wd_415 wd_2 wd_416 hd_X7_leastSpoilt rfl ⟨Nat.le_of_ble_eq_true rfl, Nat.le_of_ble_eq_true rfl⟩ ⟨Nat.zero_le _, Nat.zero_le _⟩ rfl (Nat.le_of_ble_eq_true rfl) dX7_playRound_49 (fun r m2 hE => ?_)
    obtain ⟨v3, rfl, hV⟩ := hE
    refine kt_sti ?_
    refine kt_istore_n (lv' := [(2, .int _), (0, .ref _), (1, .int _)]) C dX7_playRound_52 rfl (by decide) rfl ?_
    refine kt_iload_n C dX7_playRound_53 rfl rfl ?_
    refine kt_ldc (v := (-2000000)) C wd_214 dX7_playRound_54 ?_
    refine kt_icmp_eq C 85 dX7_playRound_56 rfl (fun c56 => ?_) (fun c56 => ?_)
    · have hV := hV.1 c56
      refine kt_aload_n C dX7_playRound_85 rfl rfl ?_
      refine kt_get (ci := 7) C 4 (by decide) rfl rfl inlX7 (by decide) wd_29 rfl dX7_playRound_86 ?_
      refine kt_get (ci := 5) C 3 (by decide) rfl rfl inlX5 (by decide) wd_284 rfl dX7_playRound_89 ?_
      refine kt_aload_n C dX7_playRound_92 rfl rfl ?_
      refine kt_callV (n := 0) C (w_X7_actsOfAllShares  hV) (by decide) rfl rfl wd_417 wd_418 wd_419 wd_2 wd_420 hd_X7_actsOfAllShares rfl ⟨Nat.le_of_ble_eq_true rfl, Nat.le_of_ble_eq_true rfl⟩ ⟨Nat.zero_le _, Nat.zero_le _⟩ rfl (Nat.le_of_ble_eq_true rfl) dX7_playRound_93 (fun r m4 hE => ?_)
      obtain ⟨v5, rfl, hV⟩ := hE
      refine kt_sti ?_
      refine kt_iadd C dX7_playRound_96 ?_
      refine kt_istore_n (lv' := [(3, .int _), (2, .int _), (0, .ref _), (1, .int _)]) C dX7_playRound_97 rfl (by decide) rfl ?_
      refine kt_iload_n C dX7_playRound_98 rfl rfl ?_
      refine kt_aload_n C dX7_playRound_99 rfl rfl ?_
      refine kt_get (ci := 7) C 8 (by decide) rfl rfl inlX7 (by decide) wd_33 rfl dX7_playRound_100 ?_
      refine kt_icmp_le C 108 dX7_playRound_103 rfl (fun c103 => ?_) (fun c103 => ?_)
      · have hV := hV.1 c103
        refine kt_aload_n C dX7_playRound_108 rfl rfl ?_
        refine kt_get (ci := 7) C 4 (by decide) rfl rfl inlX7 (by decide) wd_29 rfl dX7_playRound_109 ?_
        refine kt_iload_n C dX7_playRound_112 rfl rfl ?_
        refine kt_put3 (ty := .int) (ci := 5) C 3 (by decide) rfl rfl inlX5 tyX5_ok nmX5 (by decide) wd_284 rfl (by decide +kernel) rfl rfl (Nat.le_of_ble_eq_true rfl) (ep_10_3 _ _ _ _) dX7_playRound_113 (fun m6 hm6 => ?_)
        have hV := hV m6 hm6
        refine kt_aload_n C dX7_playRound_116 rfl rfl ?_
        refine kt_get (ci := 7) C 4 (by decide) rfl rfl inlX7 (by decide) wd_29 rfl dX7_playRound_117 ?_
        refine kt_dup C dX7_playRound_120 rfl ?_
        refine kt_get (ci := 5) C 0 (by decide) rfl rfl inlX5 (by decide) wd_285 rfl dX7_playRound_121 ?_
        refine kt_iconst (v := 1) C dX7_playRound_124 (by decide) ?_
        refine kt_iadd C dX7_playRound_125 ?_
        refine kt_put3 (ty := .int) (ci := 5) C 0 (by decide) rfl rfl inlX5 tyX5_ok nmX5 (by decide) wd_285 rfl (by decide +kernel) rfl rfl (Nat.le_of_ble_eq_true rfl) (ep_10_0 _ _ _ _) dX7_playRound_126 (fun m7 hm7 => ?_)
        have hV := hV m7 hm7
        refine kt_aload_n C dX7_playRound_129 rfl rfl ?_
        refine kt_iload_n C dX7_playRound_130 rfl rfl ?_
        refine kt_aload_n C dX7_playRound_131 rfl rfl ?_
        refine kt_get (ci := 7) C 7 (by decide) rfl rfl inlX7 (by decide) wd_32 rfl dX7_playRound_132 ?_
        refine kt_icmp_lt C 142 dX7_playRound_135 rfl (fun c135 => ?_) (fun c135 => ?_)
        · have hV := hV.1 c135
          refine kt_iconst (v := 0) C dX7_playRound_142 (by decide) ?_
          refine kt_callV (n := 1) C (w_X7_joinAnswers  hV) (by decide) rfl rfl wd_421 wd_422 wd_423 wd_2 wd_424 hd_X7_joinAnswers rfl ⟨Nat.le_of_ble_eq_true rfl, Nat.le_of_ble_eq_true rfl⟩ ⟨Nat.zero_le _, Nat.zero_le _⟩ rfl (Nat.le_of_ble_eq_true rfl) dX7_playRound_143 (fun r m8 hE => ?_)
          obtain ⟨v9, rfl, hV⟩ := hE
          refine kt_sti ?_
          refine kt_if_eq C 153 dX7_playRound_146 rfl (fun c146 => ?_) (fun c146 => ?_)
          · have hV := hV.1 c146
            refine kt_iconst (v := 0) C dX7_playRound_153 (by decide) ?_
            exact kt_iret C ⟨_, rfl, hV⟩ dX7_playRound_154
          · have hV := hV.2 c146
            refine kt_iconst (v := 1) C dX7_playRound_149 (by decide) ?_
            refine kt_goto C 154 dX7_playRound_150 rfl ?_
            exact kt_iret C ⟨_, rfl, hV⟩ dX7_playRound_154
        · have hV := hV.2 c135
          refine kt_iconst (v := 1) C dX7_playRound_138 (by decide) ?_
          refine kt_goto C 143 dX7_playRound_139 rfl ?_
          refine kt_callV (n := 1) C (w_X7_joinAnswers  hV) (by decide) rfl rfl wd_421 wd_422 wd_423 wd_2 wd_424 hd_X7_joinAnswers rfl ⟨Nat.le_of_ble_eq_true rfl, Nat.le_of_ble_eq_true rfl⟩ ⟨Nat.zero_le _, Nat.zero_le _⟩ rfl (Nat.le_of_ble_eq_true rfl) dX7_playRound_143 (fun r m10 hE => ?_)
          obtain ⟨v11, rfl, hV⟩ := hE
          refine kt_sti ?_
          refine kt_if_eq C 153 dX7_playRound_146 rfl (fun c146 => ?_) (fun c146 => ?_)
          · have hV := hV.1 c146
            refine kt_iconst (v := 0) C dX7_playRound_153 (by decide) ?_
            exact kt_iret C ⟨_, rfl, hV⟩ dX7_playRound_154
          · have hV := hV.2 c146
            refine kt_iconst (v := 1) C dX7_playRound_149 (by decide) ?_
            refine kt_goto C 154 dX7_playRound_150 rfl ?_
            exact kt_iret C ⟨_, rfl, hV⟩ dX7_playRound_154
      · have hV := hV.2 c103
        refine kt_iconst (v := 4) C dX7_playRound_106 (by decide) ?_
        exact kt_iret C ⟨_, rfl, hV⟩ dX7_playRound_107
    · have hV := hV.2 c56
      refine kt_aload_n C dX7_playRound_59 rfl rfl ?_
      refine kt_get (ci := 7) C 4 (by decide) rfl rfl inlX7 (by decide) wd_29 rfl dX7_playRound_60 ?_
      refine kt_iload_n C dX7_playRound_63 rfl rfl ?_
      refine kt_put3 (ty := .int) (ci := 5) C 1 (by decide) rfl rfl inlX5 tyX5_ok nmX5 (by decide) wd_281 rfl (by decide +kernel) rfl rfl (Nat.le_of_ble_eq_true rfl) (ep_10_1 _ _ _ _) dX7_playRound_64 (fun m12 hm12 => ?_)
      have hV := hV m12 hm12
      refine kt_aload_n C dX7_playRound_67 rfl rfl ?_
      refine kt_get (ci := 7) C 4 (by decide) rfl rfl inlX7 (by decide) wd_29 rfl dX7_playRound_68 ?_
      refine kt_aload_n C dX7_playRound_71 rfl rfl ?_
      refine kt_get (ci := 7) C 1 (by decide) rfl rfl inlX7 (by decide) wd_17 rfl dX7_playRound_72 ?_
      refine kt_iload_n C dX7_playRound_75 rfl rfl ?_
      have hb13 := vp_lt hV.1
      refine kt_aldS C (by decide) rfl hV.1 dX7_playRound_76 ?_
      have hV := hV.2
      refine kt_get (ci := 4) C 6 hb13 rfl rfl inlX4 (by decide) wd_282 rfl dX7_playRound_77 ?_
      refine kt_put3 (ty := .int) (ci := 5) C 2 (by decide) rfl rfl inlX5 tyX5_ok nmX5 (by decide) wd_283 rfl (by decide +kernel) rfl rfl (Nat.le_of_ble_eq_true rfl) (ep_10_2 _ _ _ _) dX7_playRound_80 (fun m14 hm14 => ?_)
      have hV := hV m14 hm14
      refine kt_iconst (v := 2) C dX7_playRound_83 (by decide) ?_
      exact kt_iret C ⟨_, rfl, hV⟩ dX7_playRound_84
  · have hV := hV.2 c43
    refine kt_iconst (v := 3) C dX7_playRound_46 (by decide) ?_
    exact kt_iret C ⟨_, rfl, hV⟩ dX7_playRound_47
set_option maxHeartbeats 4000000 in
set_option maxRecDepth 100000 in
theorem w_X7_playRound_6 {p : Program} {l : Launch} {e : Env} {s : State} {mi : MethodId} {args : Array Value} {below : List Frame} {meth : Method} {c : Code} {g : GG} {K : Int32 → MW → Prop} (C : Cx p s mi args meth c cX7_playRound RX7 4 (some .int) g) (n : Nat) : ∀ {y1 : Int32} {y2 : Int32} {m : MW}, V_X7_playRound_6 n  y1 y2 m K → TT p l e { frames := 5, cells := 0, slots := 0, locals := 118 } s mi args below meth c 0 0 (MQ below (QE g (Ei K)) args s 0 0 (gA g)) g 4 m 6 [(0, .ref (gad g 0 0)), (1, .int (y1)), (2, .int (y2))] [] := by
  induction n with
  | zero => intros; rename_i hV; exact absurd hV (by simp [V_X7_playRound_6])
  | succ n ih =>
    intro y1 y2 m hV
    unfold V_X7_playRound_6 at hV
    refine kt_iload_n C dX7_playRound_6 rfl rfl ?_
    refine kt_ldc (v := (1000000)) C wd_178 dX7_playRound_7 ?_
    refine kt_icmp_ge C 39 dX7_playRound_9 rfl (fun c9 => ?_) (fun c9 => ?_)
    · have hV := hV.1 c9
      refine kt_pick (lv' := [(0, .ref _), (1, .int _), (2, .int _)]) [0, 1, 2] rfl ?_
      exact w_X7_playRound_39 C  hV
    · have hV := hV.2 c9
      refine kt_aload_n C dX7_playRound_12 rfl rfl ?_
      refine kt_get (ci := 7) C 6 (by decide) rfl rfl inlX7 (by decide) wd_31 rfl dX7_playRound_13 ?_
      refine kt_if_le C 39 dX7_playRound_16 rfl (fun c16 => ?_) (fun c16 => ?_)
      · have hV := hV.1 c16
        refine kt_pick (lv' := [(0, .ref _), (1, .int _), (2, .int _)]) [0, 1, 2] rfl ?_
        exact w_X7_playRound_39 C  hV
      · have hV := hV.2 c16
        refine kt_aload_n C dX7_playRound_19 rfl rfl ?_
        refine kt_get (ci := 7) C 3 (by decide) rfl rfl inlX7 (by decide) wd_25 rfl dX7_playRound_20 ?_
        refine kt_get (ci := 1) C 1 (by decide) rfl rfl inlX1 (by decide) wd_225 rfl dX7_playRound_23 ?_
        refine kt_if_le C 39 dX7_playRound_26 rfl (fun c26 => ?_) (fun c26 => ?_)
        · have hV := hV.1 c26
          refine kt_pick (lv' := [(0, .ref _), (1, .int _), (2, .int _)]) [0, 1, 2] rfl ?_
          exact w_X7_playRound_39 C  hV
        · have hV := hV.2 c26
          refine kt_aload_n C dX7_playRound_29 rfl rfl ?_
          refine kt_callV (n := 0) C (w_X7_playTurn  hV) (by decide) rfl rfl wd_299 wd_300 wd_301 wd_2 wd_302 hd_X7_playTurn rfl ⟨Nat.le_of_ble_eq_true rfl, Nat.le_of_ble_eq_true rfl⟩ ⟨Nat.zero_le _, Nat.zero_le _⟩ rfl (Nat.le_of_ble_eq_true rfl) dX7_playRound_30 (fun r m15 hE => ?_)
          obtain ⟨rfl, hV⟩ := hE
          refine kt_stv ?_
          refine kt_iinc (v := _ + 1) (lv' := [(2, .int _), (0, .ref _), (1, .int _)]) C dX7_playRound_33 rfl rfl (by decide) rfl ?_
          refine kt_goto C 6 dX7_playRound_36 rfl ?_
          refine kt_pick (lv' := [(0, .ref _), (1, .int _), (2, .int _)]) [1, 2, 0] rfl ?_
          exact ih  hV
set_option maxHeartbeats 4000000 in
set_option maxRecDepth 100000 in
theorem w_X7_playRound {l : Launch} {g : GG} {x1 : Int32} {m : MW} {K : Int32 → MW → Prop} (hV : V_X7_playRound  x1 m K) : Ct l yX7_playRound cX7_playRound 4 (some .int) 5 118 [.ref (gad g 0 0), .int x1] g m (Ei K) := by
  refine ct_intro RX7 (by decide) rfl (Nat.le_of_ble_eq_true rfl) ?_
  intro p e s mi below meth c C
  unfold V_X7_playRound at hV
  refine kt_aload_n C dX7_playRound_0 rfl rfl ?_
  refine kt_callV (n := 0) C (w_X7_beginRound  hV) (by decide) rfl rfl wd_286 wd_287 wd_288 wd_2 wd_289 hd_X7_beginRound rfl ⟨Nat.le_of_ble_eq_true rfl, Nat.le_of_ble_eq_true rfl⟩ ⟨Nat.zero_le _, Nat.zero_le _⟩ rfl (Nat.le_of_ble_eq_true rfl) dX7_playRound_1 (fun r m1 hE => ?_)
  obtain ⟨rfl, hV⟩ := hE
  refine kt_stv ?_
  refine kt_iconst (v := 0) C dX7_playRound_4 (by decide) ?_
  refine kt_istore_n (lv' := [(2, .int _), (0, .ref _), (1, .int _)]) C dX7_playRound_5 rfl (by decide) rfl ?_
  obtain ⟨k, hV⟩ := hV
  refine kt_pick (lv' := [(0, .ref _), (1, .int _), (2, .int _)]) [1, 2, 0] rfl ?_
  exact w_X7_playRound_6 C  k hV
theorem hd_X7_run : yX7_run.cls = RX7 ∧ yX7_run.cls ≠ "java/lang/invoke/MethodHandle" ∧ yX7_run.cls ≠ "java/lang/invoke/VarHandle" ∧ (parseMethodDescriptor yX7_run.desc).map (fun d => d.parameters.length) = some 1 := by decide +kernel
def V_X7_run_25 (n : Nat) (y1 : Int32) (y2 : Int32) (y3 : Int32) (m : MW) (K : Int32 → MW → Prop) : Prop := match n with
  | 0 => False
  | n + 1 => ((y1 < y3 → (K y2 m)) ∧ (¬ y1 < y3 → ((¬ y2 = 1 → (K y2 m)) ∧ (y2 = 1 → (V_X7_playRound  (y3) m (fun v3 m2 => (V_X7_run_25 n  (y1) (v3) ((y3 + 1)) m2 K)))))))
def V_X7_run (x1 : Int32) (m : MW) (K : Int32 → MW → Prop) : Prop := ((x1 < 1 → (K (-2000002) m)) ∧ (¬ x1 < 1 → ((x1 ≤ 10 → (V_X5_beginRun   m (fun m1 => (∃ k : Nat, V_X7_run_25 k  (x1) (1) (1) m1 K)))) ∧ (¬ x1 ≤ 10 → (K (-2000002) m)))))
set_option maxHeartbeats 4000000 in
set_option maxRecDepth 100000 in
theorem w_X7_run_25 {p : Program} {l : Launch} {e : Env} {s : State} {mi : MethodId} {args : Array Value} {below : List Frame} {meth : Method} {c : Code} {g : GG} {K : Int32 → MW → Prop} (C : Cx p s mi args meth c cX7_run RX7 4 (some .int) g) (n : Nat) : ∀ {y1 : Int32} {y2 : Int32} {y3 : Int32} {m : MW}, V_X7_run_25 n  y1 y2 y3 m K → TT p l e { frames := 6, cells := 0, slots := 0, locals := 141 } s mi args below meth c 0 0 (MQ below (QE g (Ei K)) args s 0 0 (gA g)) g 4 m 25 [(0, .ref (gad g 0 0)), (1, .int (y1)), (2, .int (y2)), (3, .int (y3))] [] := by
  induction n with
  | zero => intros; rename_i hV; exact absurd hV (by simp [V_X7_run_25])
  | succ n ih =>
    intro y1 y2 y3 m hV
    unfold V_X7_run_25 at hV
    refine kt_iload_n C dX7_run_25 rfl rfl ?_
    refine kt_iload_n C dX7_run_26 rfl rfl ?_
    refine kt_icmp_gt C 47 dX7_run_27 rfl (fun c27 => ?_) (fun c27 => ?_)
    · have hV := hV.1 c27
      refine kt_iload_n C dX7_run_47 rfl rfl ?_
      exact kt_iret C ⟨_, rfl, hV⟩ dX7_run_48
    · have hV := hV.2 c27
      refine kt_iload_n C dX7_run_30 rfl rfl ?_
      refine kt_iconst (v := 1) C dX7_run_31 (by decide) ?_
      refine kt_icmp_ne C 47 dX7_run_32 rfl (fun c32 => ?_) (fun c32 => ?_)
      · have hV := hV.1 c32
        refine kt_iload_n C dX7_run_47 rfl rfl ?_
        exact kt_iret C ⟨_, rfl, hV⟩ dX7_run_48
      · have hV := hV.2 c32
        refine kt_aload_n C dX7_run_35 rfl rfl ?_
        refine kt_iload_n C dX7_run_36 rfl rfl ?_
        refine kt_callV (n := 1) C (w_X7_playRound  hV) (by decide) rfl rfl wd_277 wd_278 wd_279 wd_2 wd_280 hd_X7_playRound rfl ⟨Nat.le_of_ble_eq_true rfl, Nat.le_of_ble_eq_true rfl⟩ ⟨Nat.zero_le _, Nat.zero_le _⟩ rfl (Nat.le_of_ble_eq_true rfl) dX7_run_37 (fun r m2 hE => ?_)
        obtain ⟨v3, rfl, hV⟩ := hE
        refine kt_sti ?_
        refine kt_istore_n (lv' := [(2, .int _), (0, .ref _), (1, .int _), (3, .int _)]) C dX7_run_40 rfl (by decide) rfl ?_
        refine kt_iinc (v := _ + 1) (lv' := [(3, .int _), (2, .int _), (0, .ref _), (1, .int _)]) C dX7_run_41 rfl rfl (by decide) rfl ?_
        refine kt_goto C 25 dX7_run_44 rfl ?_
        refine kt_pick (lv' := [(0, .ref _), (1, .int _), (2, .int _), (3, .int _)]) [2, 3, 1, 0] rfl ?_
        exact ih  hV
set_option maxHeartbeats 4000000 in
set_option maxRecDepth 100000 in
theorem w_X7_run {l : Launch} {g : GG} {x1 : Int32} {m : MW} {K : Int32 → MW → Prop} (hV : V_X7_run  x1 m K) : Ct l yX7_run cX7_run 4 (some .int) 6 141 [.ref (gad g 0 0), .int x1] g m (Ei K) := by
  refine ct_intro RX7 (by decide) rfl (Nat.le_of_ble_eq_true rfl) ?_
  intro p e s mi below meth c C
  unfold V_X7_run at hV
  refine kt_iload_n C dX7_run_0 rfl rfl ?_
  refine kt_iconst (v := 1) C dX7_run_1 (by decide) ?_
  refine kt_icmp_lt C 11 dX7_run_2 rfl (fun c2 => ?_) (fun c2 => ?_)
  · have hV := hV.1 c2
    refine kt_ldc (v := (-2000002)) C wd_168 dX7_run_11 ?_
    exact kt_iret C ⟨_, rfl, hV⟩ dX7_run_13
  · have hV := hV.2 c2
    refine kt_iload_n C dX7_run_5 rfl rfl ?_
    refine kt_bipush (v := 10) C dX7_run_6 (by decide) ?_
    refine kt_icmp_le C 14 dX7_run_8 rfl (fun c8 => ?_) (fun c8 => ?_)
    · have hV := hV.1 c8
      refine kt_aload_n C dX7_run_14 rfl rfl ?_
      refine kt_get (ci := 7) C 4 (by decide) rfl rfl inlX7 (by decide) wd_29 rfl dX7_run_15 ?_
      refine kt_callV (n := 0) C (w_X5_beginRun  hV) (by decide) rfl rfl wd_273 wd_274 wd_275 wd_28 wd_276 hd_X5_beginRun rfl ⟨Nat.le_of_ble_eq_true rfl, Nat.le_of_ble_eq_true rfl⟩ ⟨Nat.zero_le _, Nat.zero_le _⟩ rfl (Nat.le_of_ble_eq_true rfl) dX7_run_18 (fun r m1 hE => ?_)
      obtain ⟨rfl, hV⟩ := hE
      refine kt_stv ?_
      refine kt_iconst (v := 1) C dX7_run_21 (by decide) ?_
      refine kt_istore_n (lv' := [(2, .int _), (0, .ref _), (1, .int _)]) C dX7_run_22 rfl (by decide) rfl ?_
      refine kt_iconst (v := 1) C dX7_run_23 (by decide) ?_
      refine kt_istore_n (lv' := [(3, .int _), (2, .int _), (0, .ref _), (1, .int _)]) C dX7_run_24 rfl (by decide) rfl ?_
      obtain ⟨k, hV⟩ := hV
      refine kt_pick (lv' := [(0, .ref _), (1, .int _), (2, .int _), (3, .int _)]) [2, 3, 1, 0] rfl ?_
      exact w_X7_run_25 C  k hV
    · have hV := hV.2 c8
      refine kt_ldc (v := (-2000002)) C wd_168 dX7_run_11 ?_
      exact kt_iret C ⟨_, rfl, hV⟩ dX7_run_13
