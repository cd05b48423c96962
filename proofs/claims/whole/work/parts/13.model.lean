theorem hd_X8_isFact : yX8_isFact.cls = RX8 ∧ yX8_isFact.cls ≠ "java/lang/invoke/MethodHandle" ∧ yX8_isFact.cls ≠ "java/lang/invoke/VarHandle" ∧ (parseMethodDescriptor yX8_isFact.desc).map (fun d => d.parameters.length) = some 1 := by decide +kernel
def V_X8_isFact (x0 : Int32) (m : MW) (K : Int32 → MW → Prop) : Prop := ((x0 < 0 → (K 0 m)) ∧ (¬ x0 < 0 → ((10 ≤ x0 → (K 0 m)) ∧ (¬ 10 ≤ x0 → (K 1 m)))))
set_option maxHeartbeats 4000000 in
set_option maxRecDepth 100000 in
theorem w_X8_isFact {l : Launch} {g : GG} {x0 : Int32} {m : MW} {K : Int32 → MW → Prop} (hV : V_X8_isFact  x0 m K) : Ct l yX8_isFact cX8_isFact 1 (some .boolean) 0 0 [.int x0] g m (Ei K) := by
  refine ct_intro RX8 (by decide) rfl (Nat.le_of_ble_eq_true rfl) ?_
  intro p e s mi below meth c C
  unfold V_X8_isFact at hV
  refine kt_iload_n C dX8_isFact_0 rfl rfl ?_
  refine kt_if_lt C 14 dX8_isFact_1 rfl (fun c1 => ?_) (fun c1 => ?_)
  · have hV := hV.1 c1
    refine kt_iconst (v := 0) C dX8_isFact_14 (by decide) ?_
    exact kt_zret C rfl ⟨_, rfl, hV⟩ dX8_isFact_15
  · have hV := hV.2 c1
    refine kt_iload_n C dX8_isFact_4 rfl rfl ?_
    refine kt_bipush (v := 10) C dX8_isFact_5 (by decide) ?_
    refine kt_icmp_ge C 14 dX8_isFact_7 rfl (fun c7 => ?_) (fun c7 => ?_)
    · have hV := hV.1 c7
      refine kt_iconst (v := 0) C dX8_isFact_14 (by decide) ?_
      exact kt_zret C rfl ⟨_, rfl, hV⟩ dX8_isFact_15
    · have hV := hV.2 c7
      refine kt_iconst (v := 1) C dX8_isFact_10 (by decide) ?_
      refine kt_goto C 15 dX8_isFact_11 rfl ?_
      exact kt_zret C rfl ⟨_, rfl, hV⟩ dX8_isFact_15
theorem hd_X8_isEnd : yX8_isEnd.cls = RX8 ∧ yX8_isEnd.cls ≠ "java/lang/invoke/MethodHandle" ∧ yX8_isEnd.cls ≠ "java/lang/invoke/VarHandle" ∧ (parseMethodDescriptor yX8_isEnd.desc).map (fun d => d.parameters.length) = some 1 := by decide +kernel
def V_X8_isEnd (x0 : Int32) (m : MW) (K : Int32 → MW → Prop) : Prop := ((x0 < (-1000000) → (K 0 m)) ∧ (¬ x0 < (-1000000) → (((1000000) < x0 → (K 0 m)) ∧ (¬ (1000000) < x0 → (K 1 m)))))
set_option maxHeartbeats 4000000 in
set_option maxRecDepth 100000 in
theorem w_X8_isEnd {l : Launch} {g : GG} {x0 : Int32} {m : MW} {K : Int32 → MW → Prop} (hV : V_X8_isEnd  x0 m K) : Ct l yX8_isEnd cX8_isEnd 1 (some .boolean) 0 0 [.int x0] g m (Ei K) := by
  refine ct_intro RX8 (by decide) rfl (Nat.le_of_ble_eq_true rfl) ?_
  intro p e s mi below meth c C
  unfold V_X8_isEnd at hV
  refine kt_iload_n C dX8_isEnd_0 rfl rfl ?_
  refine kt_ldc (v := (-1000000)) C wd_195 dX8_isEnd_1 ?_
  refine kt_icmp_lt C 16 dX8_isEnd_3 rfl (fun c3 => ?_) (fun c3 => ?_)
  · have hV := hV.1 c3
    refine kt_iconst (v := 0) C dX8_isEnd_16 (by decide) ?_
    exact kt_zret C rfl ⟨_, rfl, hV⟩ dX8_isEnd_17
  · have hV := hV.2 c3
    refine kt_iload_n C dX8_isEnd_6 rfl rfl ?_
    refine kt_ldc (v := (1000000)) C wd_196 dX8_isEnd_7 ?_
    refine kt_icmp_gt C 16 dX8_isEnd_9 rfl (fun c9 => ?_) (fun c9 => ?_)
    · have hV := hV.1 c9
      refine kt_iconst (v := 0) C dX8_isEnd_16 (by decide) ?_
      exact kt_zret C rfl ⟨_, rfl, hV⟩ dX8_isEnd_17
    · have hV := hV.2 c9
      refine kt_iconst (v := 1) C dX8_isEnd_12 (by decide) ?_
      refine kt_goto C 17 dX8_isEnd_13 rfl ?_
      exact kt_zret C rfl ⟨_, rfl, hV⟩ dX8_isEnd_17
theorem hd_X8_isShare : yX8_isShare.cls = RX8 ∧ yX8_isShare.cls ≠ "java/lang/invoke/MethodHandle" ∧ yX8_isShare.cls ≠ "java/lang/invoke/VarHandle" ∧ (parseMethodDescriptor yX8_isShare.desc).map (fun d => d.parameters.length) = some 1 := by decide +kernel
def V_X8_isShare (x1 : Int32) (m : MW) (K : Int32 → MW → Prop) : Prop := ((x1 < 0 → (K 0 m)) ∧ (¬ x1 < 0 → (((m.2 22 2) ≤ x1 → (K 0 m)) ∧ (¬ (m.2 22 2) ≤ x1 → (K 1 m)))))
set_option maxHeartbeats 4000000 in
set_option maxRecDepth 100000 in
theorem w_X8_isShare {l : Launch} {g : GG} {x1 : Int32} {m : MW} {K : Int32 → MW → Prop} (hV : V_X8_isShare  x1 m K) : Ct l yX8_isShare cX8_isShare 2 (some .boolean) 0 0 [.ref (gad g 22 0), .int x1] g m (Ei K) := by
  refine ct_intro RX8 (by decide) rfl (Nat.le_of_ble_eq_true rfl) ?_
  intro p e s mi below meth c C
  unfold V_X8_isShare at hV
  refine kt_iload_n C dX8_isShare_0 rfl rfl ?_
  refine kt_if_lt C 16 dX8_isShare_1 rfl (fun c1 => ?_) (fun c1 => ?_)
  · have hV := hV.1 c1
    refine kt_iconst (v := 0) C dX8_isShare_16 (by decide) ?_
    exact kt_zret C rfl ⟨_, rfl, hV⟩ dX8_isShare_17
  · have hV := hV.2 c1
    refine kt_iload_n C dX8_isShare_4 rfl rfl ?_
    refine kt_aload_n C dX8_isShare_5 rfl rfl ?_
    refine kt_get (ci := 8) C 2 (by decide) rfl rfl inlX8 (by decide) wd_159 rfl dX8_isShare_6 ?_
    refine kt_icmp_ge C 16 dX8_isShare_9 rfl (fun c9 => ?_) (fun c9 => ?_)
    · have hV := hV.1 c9
      refine kt_iconst (v := 0) C dX8_isShare_16 (by decide) ?_
      exact kt_zret C rfl ⟨_, rfl, hV⟩ dX8_isShare_17
    · have hV := hV.2 c9
      refine kt_iconst (v := 1) C dX8_isShare_12 (by decide) ?_
      refine kt_goto C 17 dX8_isShare_13 rfl ?_
      exact kt_zret C rfl ⟨_, rfl, hV⟩ dX8_isShare_17
theorem hd_X8_share : yX8_share.cls = RX8 ∧ yX8_share.cls ≠ "java/lang/invoke/MethodHandle" ∧ yX8_share.cls ≠ "java/lang/invoke/VarHandle" ∧ (parseMethodDescriptor yX8_share.desc).map (fun d => d.parameters.length) = some 1 := by decide +kernel
def V_X8_share (x1 : Int32) (m : MW) (K : Int32 → MW → Prop) : Prop := (V_X8_isFact  (x1) m (fun v2 m1 => ((¬ v2 = 0 → ((¬ (m1.2 22 2) = 10 → (vp_in (m1.2 22 2) 10 ∧ ∀ m3 : MW, m3 = (m1.1, up2 m1.2 33 ((m1.2 22 2)).toNatClampNeg x1) → (∀ m4 : MW, m4 = (m3.1, up2 m3.2 22 2 ((m3.2 22 2) + 1)) → (K ((m4.2 22 2) - 1) m4)))) ∧ ((m1.2 22 2) = 10 → (K (-2000003) m1)))) ∧ (v2 = 0 → (K (-2000001) m1)))))
set_option maxHeartbeats 4000000 in
set_option maxRecDepth 100000 in
theorem w_X8_share {l : Launch} {g : GG} {x1 : Int32} {m : MW} {K : Int32 → MW → Prop} (hV : V_X8_share  x1 m K) : Ct l yX8_share cX8_share 2 (some .int) 1 20 [.ref (gad g 22 0), .int x1] g m (Ei K) := by
  refine ct_intro RX8 (by decide) rfl (Nat.le_of_ble_eq_true rfl) ?_
  intro p e s mi below meth c C
  unfold V_X8_share at hV
  refine kt_iload_n C dX8_share_0 rfl rfl ?_
  refine kt_callS (n := 1) C (w_X8_isFact  hV) wd_161 wd_162 wd_5 wd_163 hd_X8_isFact rfl ⟨Nat.le_of_ble_eq_true rfl, Nat.le_of_ble_eq_true rfl⟩ ⟨Nat.zero_le _, Nat.zero_le _⟩ rfl (Nat.le_of_ble_eq_true rfl) dX8_share_1 (fun r m1 hE => ?_)
  obtain ⟨v2, rfl, hV⟩ := hE
  refine kt_sti ?_
  refine kt_if_ne C 10 dX8_share_4 rfl (fun c4 => ?_) (fun c4 => ?_)
  · have hV := hV.1 c4
    refine kt_aload_n C dX8_share_10 rfl rfl ?_
    refine kt_get (ci := 8) C 2 (by decide) rfl rfl inlX8 (by decide) wd_159 rfl dX8_share_11 ?_
    refine kt_bipush (v := 10) C dX8_share_14 (by decide) ?_
    refine kt_icmp_ne C 22 dX8_share_16 rfl (fun c16 => ?_) (fun c16 => ?_)
    · have hV := hV.1 c16
      refine kt_aload_n C dX8_share_22 rfl rfl ?_
      refine kt_get (ci := 8) C 3 (by decide) rfl rfl inlX8 (by decide) wd_121 rfl dX8_share_23 ?_
      refine kt_aload_n C dX8_share_26 rfl rfl ?_
      refine kt_get (ci := 8) C 2 (by decide) rfl rfl inlX8 (by decide) wd_159 rfl dX8_share_27 ?_
      refine kt_iload_n C dX8_share_30 rfl rfl ?_
      refine kt_iast2 C rfl rfl hV.1 (ea_33 _ _ _ _) dX8_share_31 (fun m3 hm3 => ?_)
      have hV := hV.2 m3 hm3
      refine kt_aload_n C dX8_share_32 rfl rfl ?_
      refine kt_dup C dX8_share_33 rfl ?_
      refine kt_get (ci := 8) C 2 (by decide) rfl rfl inlX8 (by decide) wd_159 rfl dX8_share_34 ?_
      refine kt_iconst (v := 1) C dX8_share_37 (by decide) ?_
      refine kt_iadd C dX8_share_38 ?_
      refine kt_put2 (ty := .int) C 2 rfl (by decide) wd_159 rfl (by decide +kernel) rfl rfl (Nat.le_of_ble_eq_true rfl) (ep2_2 _ _ _) dX8_share_39 (fun m4 hm4 => ?_)
      have hV := hV m4 hm4
      refine kt_aload_n C dX8_share_42 rfl rfl ?_
      refine kt_get (ci := 8) C 2 (by decide) rfl rfl inlX8 (by decide) wd_159 rfl dX8_share_43 ?_
      refine kt_iconst (v := 1) C dX8_share_46 (by decide) ?_
      refine kt_isub C dX8_share_47 ?_
      exact kt_iret C ⟨_, rfl, hV⟩ dX8_share_48
    · have hV := hV.2 c16
      refine kt_ldc (v := (-2000003)) C wd_160 dX8_share_19 ?_
      exact kt_iret C ⟨_, rfl, hV⟩ dX8_share_21
  · have hV := hV.2 c4
    refine kt_ldc (v := (-2000001)) C wd_158 dX8_share_7 ?_
    exact kt_iret C ⟨_, rfl, hV⟩ dX8_share_9
theorem hd_X8_act : yX8_act.cls = RX8 ∧ yX8_act.cls ≠ "java/lang/invoke/MethodHandle" ∧ yX8_act.cls ≠ "java/lang/invoke/VarHandle" ∧ (parseMethodDescriptor yX8_act.desc).map (fun d => d.parameters.length) = some 4 := by decide +kernel
def V_X8_act (x1 : Int32) (x2 : Int32) (x3 : Int32) (x4 : Int32) (m : MW) (K : Int32 → MW → Prop) : Prop := (V_X8_isShare  (x1) m (fun v2 m1 => ((¬ v2 = 0 → ((x2 < 0 → (K (-2000002) m1)) ∧ (¬ x2 < 0 → ((9 < x2 → (K (-2000002) m1)) ∧ (¬ 9 < x2 → ((¬ x2 = 0 → (vp_in x1 10 ∧ ((¬ (m1.2 34 (x1).toNatClampNeg) = 8 → (vp_in x1 10 ∧ (vp_in ((8 * x1) + (m1.2 34 (x1).toNatClampNeg)) 80 ∧ ∀ m3 : MW, m3 = (m1.1, up2 m1.2 35 (((8 * x1) + (m1.2 34 (x1).toNatClampNeg))).toNatClampNeg x2) → (vp_in x1 10 ∧ (vp_in ((8 * x1) + (m3.2 34 (x1).toNatClampNeg)) 80 ∧ ∀ m4 : MW, m4 = (m3.1, up2 m3.2 36 (((8 * x1) + (m3.2 34 (x1).toNatClampNeg))).toNatClampNeg x3) → (vp_in x1 10 ∧ (vp_in ((8 * x1) + (m4.2 34 (x1).toNatClampNeg)) 80 ∧ ∀ m5 : MW, m5 = (m4.1, up2 m4.2 37 (((8 * x1) + (m4.2 34 (x1).toNatClampNeg))).toNatClampNeg x4) → (vp_in x1 10 ∧ (vp_in x1 10 ∧ ∀ m6 : MW, m6 = (m5.1, up2 m5.2 34 (x1).toNatClampNeg ((m5.2 34 (x1).toNatClampNeg) + 1)) → (vp_in x1 10 ∧ (K (m6.2 34 (x1).toNatClampNeg) m6))))))))))) ∧ ((m1.2 34 (x1).toNatClampNeg) = 8 → (K (-2000003) m1))))) ∧ (x2 = 0 → (V_X8_isEnd  (x3) m1 (fun v8 m7 => ((v8 = 0 → (K (-2000002) m7)) ∧ (¬ v8 = 0 → (V_X8_isEnd  (x4) m7 (fun v10 m9 => ((¬ v10 = 0 → (vp_in x1 10 ∧ ((¬ (m9.2 34 (x1).toNatClampNeg) = 8 → (vp_in x1 10 ∧ (vp_in ((8 * x1) + (m9.2 34 (x1).toNatClampNeg)) 80 ∧ ∀ m11 : MW, m11 = (m9.1, up2 m9.2 35 (((8 * x1) + (m9.2 34 (x1).toNatClampNeg))).toNatClampNeg x2) → (vp_in x1 10 ∧ (vp_in ((8 * x1) + (m11.2 34 (x1).toNatClampNeg)) 80 ∧ ∀ m12 : MW, m12 = (m11.1, up2 m11.2 36 (((8 * x1) + (m11.2 34 (x1).toNatClampNeg))).toNatClampNeg x3) → (vp_in x1 10 ∧ (vp_in ((8 * x1) + (m12.2 34 (x1).toNatClampNeg)) 80 ∧ ∀ m13 : MW, m13 = (m12.1, up2 m12.2 37 (((8 * x1) + (m12.2 34 (x1).toNatClampNeg))).toNatClampNeg x4) → (vp_in x1 10 ∧ (vp_in x1 10 ∧ ∀ m14 : MW, m14 = (m13.1, up2 m13.2 34 (x1).toNatClampNeg ((m13.2 34 (x1).toNatClampNeg) + 1)) → (vp_in x1 10 ∧ (K (m14.2 34 (x1).toNatClampNeg) m14))))))))))) ∧ ((m9.2 34 (x1).toNatClampNeg) = 8 → (K (-2000003) m9))))) ∧ (v10 = 0 → (K (-2000002) m9)))))))))))))))) ∧ (v2 = 0 → (K (-2000001) m1)))))
set_option maxHeartbeats 4000000 in
set_option maxRecDepth 100000 in
theorem w_X8_act {l : Launch} {g : GG} {x1 : Int32} {x2 : Int32} {x3 : Int32} {x4 : Int32} {m : MW} {K : Int32 → MW → Prop} (hV : V_X8_act  x1 x2 x3 x4 m K) : Ct l yX8_act cX8_act 5 (some .int) 1 21 [.ref (gad g 22 0), .int x1, .int x2, .int x3, .int x4] g m (Ei K) := by
  refine ct_intro RX8 (by decide) rfl (Nat.le_of_ble_eq_true rfl) ?_
  intro p e s mi below meth c C
  unfold V_X8_act at hV
  refine kt_aload_n C dX8_act_0 rfl rfl ?_
  refine kt_iload_n C dX8_act_1 rfl rfl ?_
  refine kt_callV (n := 1) C (w_X8_isShare  hV) (by decide) rfl rfl wd_188 wd_189 wd_190 wd_5 wd_191 hd_X8_isShare rfl ⟨Nat.le_of_ble_eq_true rfl, Nat.le_of_ble_eq_true rfl⟩ ⟨Nat.zero_le _, Nat.zero_le _⟩ rfl (Nat.le_of_ble_eq_true rfl) dX8_act_2 (fun r m1 hE => ?_)
  obtain ⟨v2, rfl, hV⟩ := hE
  refine kt_sti ?_
  refine kt_if_ne C 11 dX8_act_5 rfl (fun c5 => ?_) (fun c5 => ?_)
  · have hV := hV.1 c5
    refine kt_iload_n C dX8_act_11 rfl rfl ?_
    refine kt_if_lt C 40 dX8_act_12 rfl (fun c12 => ?_) (fun c12 => ?_)
    · have hV := hV.1 c12
      refine kt_ldc (v := (-2000002)) C wd_187 dX8_act_40 ?_
      exact kt_iret C ⟨_, rfl, hV⟩ dX8_act_42
    · have hV := hV.2 c12
      refine kt_iload_n C dX8_act_15 rfl rfl ?_
      refine kt_bipush (v := 9) C dX8_act_16 (by decide) ?_
      refine kt_icmp_gt C 40 dX8_act_18 rfl (fun c18 => ?_) (fun c18 => ?_)
      · have hV := hV.1 c18
        refine kt_ldc (v := (-2000002)) C wd_187 dX8_act_40 ?_
        exact kt_iret C ⟨_, rfl, hV⟩ dX8_act_42
      · have hV := hV.2 c18
        refine kt_iload_n C dX8_act_21 rfl rfl ?_
        refine kt_if_ne C 43 dX8_act_22 rfl (fun c22 => ?_) (fun c22 => ?_)
        · have hV := hV.1 c22
          refine kt_aload_n C dX8_act_43 rfl rfl ?_
          refine kt_get (ci := 8) C 4 (by decide) rfl rfl inlX8 (by decide) wd_122 rfl dX8_act_44 ?_
          refine kt_iload_n C dX8_act_47 rfl rfl ?_
          refine kt_iald C (by decide) rfl hV.1 dX8_act_48 ?_
          have hV := hV.2
          refine kt_bipush (v := 8) C dX8_act_49 (by decide) ?_
          refine kt_icmp_ne C 57 dX8_act_51 rfl (fun c51 => ?_) (fun c51 => ?_)
          · have hV := hV.1 c51
            refine kt_aload_n C dX8_act_57 rfl rfl ?_
            refine kt_get (ci := 8) C 5 (by decide) rfl rfl inlX8 (by decide) wd_123 rfl dX8_act_58 ?_
            refine kt_bipush (v := 8) C dX8_act_61 (by decide) ?_
            refine kt_iload_n C dX8_act_63 rfl rfl ?_
            refine kt_imul C dX8_act_64 ?_
            refine kt_aload_n C dX8_act_65 rfl rfl ?_
            refine kt_get (ci := 8) C 4 (by decide) rfl rfl inlX8 (by decide) wd_122 rfl dX8_act_66 ?_
            refine kt_iload_n C dX8_act_69 rfl rfl ?_
            refine kt_iald C (by decide) rfl hV.1 dX8_act_70 ?_
            have hV := hV.2
            refine kt_iadd C dX8_act_71 ?_
            refine kt_iload_n C dX8_act_72 rfl rfl ?_
            refine kt_iast2 C rfl rfl hV.1 (ea_35 _ _ _ _) dX8_act_73 (fun m3 hm3 => ?_)
            have hV := hV.2 m3 hm3
            refine kt_aload_n C dX8_act_74 rfl rfl ?_
            refine kt_get (ci := 8) C 6 (by decide) rfl rfl inlX8 (by decide) wd_124 rfl dX8_act_75 ?_
            refine kt_bipush (v := 8) C dX8_act_78 (by decide) ?_
            refine kt_iload_n C dX8_act_80 rfl rfl ?_
            refine kt_imul C dX8_act_81 ?_
            refine kt_aload_n C dX8_act_82 rfl rfl ?_
            refine kt_get (ci := 8) C 4 (by decide) rfl rfl inlX8 (by decide) wd_122 rfl dX8_act_83 ?_
            refine kt_iload_n C dX8_act_86 rfl rfl ?_
            refine kt_iald C (by decide) rfl hV.1 dX8_act_87 ?_
            have hV := hV.2
            refine kt_iadd C dX8_act_88 ?_
            refine kt_iload_n C dX8_act_89 rfl rfl ?_
            refine kt_iast2 C rfl rfl hV.1 (ea_36 _ _ _ _) dX8_act_90 (fun m4 hm4 => ?_)
            have hV := hV.2 m4 hm4
            refine kt_aload_n C dX8_act_91 rfl rfl ?_
            refine kt_get (ci := 8) C 7 (by decide) rfl rfl inlX8 (by decide) wd_125 rfl dX8_act_92 ?_
            refine kt_bipush (v := 8) C dX8_act_95 (by decide) ?_
            refine kt_iload_n C dX8_act_97 rfl rfl ?_
            refine kt_imul C dX8_act_98 ?_
            refine kt_aload_n C dX8_act_99 rfl rfl ?_
            refine kt_get (ci := 8) C 4 (by decide) rfl rfl inlX8 (by decide) wd_122 rfl dX8_act_100 ?_
            refine kt_iload_n C dX8_act_103 rfl rfl ?_
            refine kt_iald C (by decide) rfl hV.1 dX8_act_104 ?_
            have hV := hV.2
            refine kt_iadd C dX8_act_105 ?_
            refine kt_iload C dX8_act_106 rfl ?_
            refine kt_iast2 C rfl rfl hV.1 (ea_37 _ _ _ _) dX8_act_108 (fun m5 hm5 => ?_)
            have hV := hV.2 m5 hm5
            refine kt_aload_n C dX8_act_109 rfl rfl ?_
            refine kt_get (ci := 8) C 4 (by decide) rfl rfl inlX8 (by decide) wd_122 rfl dX8_act_110 ?_
            refine kt_iload_n C dX8_act_113 rfl rfl ?_
            refine kt_dup2 C dX8_act_114 rfl rfl ?_
            refine kt_iald C (by decide) rfl hV.1 dX8_act_115 ?_
            have hV := hV.2
            refine kt_iconst (v := 1) C dX8_act_116 (by decide) ?_
            refine kt_iadd C dX8_act_117 ?_
            refine kt_iast2 C rfl rfl hV.1 (ea_34 _ _ _ _) dX8_act_118 (fun m6 hm6 => ?_)
            have hV := hV.2 m6 hm6
            refine kt_aload_n C dX8_act_119 rfl rfl ?_
            refine kt_get (ci := 8) C 4 (by decide) rfl rfl inlX8 (by decide) wd_122 rfl dX8_act_120 ?_
            refine kt_iload_n C dX8_act_123 rfl rfl ?_
            refine kt_iald C (by decide) rfl hV.1 dX8_act_124 ?_
            have hV := hV.2
            exact kt_iret C ⟨_, rfl, hV⟩ dX8_act_125
          · have hV := hV.2 c51
            refine kt_ldc (v := (-2000003)) C wd_160 dX8_act_54 ?_
            exact kt_iret C ⟨_, rfl, hV⟩ dX8_act_56
        · have hV := hV.2 c22
          refine kt_iload_n C dX8_act_25 rfl rfl ?_
          refine kt_callS (n := 1) C (w_X8_isEnd  hV) wd_192 wd_193 wd_5 wd_194 hd_X8_isEnd rfl ⟨Nat.le_of_ble_eq_true rfl, Nat.le_of_ble_eq_true rfl⟩ ⟨Nat.zero_le _, Nat.zero_le _⟩ rfl (Nat.le_of_ble_eq_true rfl) dX8_act_26 (fun r m7 hE => ?_)
          obtain ⟨v8, rfl, hV⟩ := hE
          refine kt_sti ?_
          refine kt_if_eq C 40 dX8_act_29 rfl (fun c29 => ?_) (fun c29 => ?_)
          · have hV := hV.1 c29
            refine kt_ldc (v := (-2000002)) C wd_187 dX8_act_40 ?_
            exact kt_iret C ⟨_, rfl, hV⟩ dX8_act_42
          · have hV := hV.2 c29
            refine kt_iload C dX8_act_32 rfl ?_
            refine kt_callS (n := 1) C (w_X8_isEnd  hV) wd_192 wd_193 wd_5 wd_194 hd_X8_isEnd rfl ⟨Nat.le_of_ble_eq_true rfl, Nat.le_of_ble_eq_true rfl⟩ ⟨Nat.zero_le _, Nat.zero_le _⟩ rfl (Nat.le_of_ble_eq_true rfl) dX8_act_34 (fun r m9 hE => ?_)
            obtain ⟨v10, rfl, hV⟩ := hE
            refine kt_sti ?_
            refine kt_if_ne C 43 dX8_act_37 rfl (fun c37 => ?_) (fun c37 => ?_)
            · have hV := hV.1 c37
              refine kt_aload_n C dX8_act_43 rfl rfl ?_
              refine kt_get (ci := 8) C 4 (by decide) rfl rfl inlX8 (by decide) wd_122 rfl dX8_act_44 ?_
              refine kt_iload_n C dX8_act_47 rfl rfl ?_
              refine kt_iald C (by decide) rfl hV.1 dX8_act_48 ?_
              have hV := hV.2
              refine kt_bipush (v := 8) C dX8_act_49 (by decide) ?_
              refine kt_icmp_ne C 57 dX8_act_51 rfl (fun c51 => ?_) (fun c51 => ?_)
              · have hV := hV.1 c51
                refine kt_aload_n C dX8_act_57 rfl rfl ?_
                refine kt_get (ci := 8) C 5 (by decide) rfl rfl inlX8 (by decide) wd_123 rfl dX8_act_58 ?_
                refine kt_bipush (v := 8) C dX8_act_61 (by decide) ?_
                refine kt_iload_n C dX8_act_63 rfl rfl ?_
                refine kt_imul C dX8_act_64 ?_
                refine kt_aload_n C dX8_act_65 rfl rfl ?_
                refine kt_get (ci := 8) C 4 (by decide) rfl rfl inlX8 (by decide) wd_122 rfl dX8_act_66 ?_
                refine kt_iload_n C dX8_act_69 rfl rfl ?_
                refine kt_iald C (by decide) rfl hV.1 dX8_act_70 ?_
                have hV := hV.2
                refine kt_iadd C dX8_act_71 ?_
                refine kt_iload_n C dX8_act_72 rfl rfl ?_
                refine kt_iast2 C rfl rfl hV.1 (ea_35 _ _ _ _) dX8_act_73 (fun m11 hm11 => ?_)
                have hV := hV.2 m11 hm11
                refine kt_aload_n C dX8_act_74 rfl rfl ?_
                refine kt_get (ci := 8) C 6 (by decide) rfl rfl inlX8 (by decide) wd_124 rfl dX8_act_75 ?_
                refine kt_bipush (v := 8) C dX8_act_78 (by decide) ?_
                refine kt_iload_n C dX8_act_80 rfl rfl ?_
                refine kt_imul C dX8_act_81 ?_
                refine kt_aload_n C dX8_act_82 rfl rfl ?_
                refine kt_get (ci := 8) C 4 (by decide) rfl rfl inlX8 (by decide) wd_122 rfl dX8_act_83 ?_
                refine kt_iload_n C dX8_act_86 rfl rfl ?_
                refine kt_iald C (by decide) rfl hV.1 dX8_act_87 ?_
                have hV := hV.2
                refine kt_iadd C dX8_act_88 ?_
                refine kt_iload_n C dX8_act_89 rfl rfl ?_
                refine kt_iast2 C rfl rfl hV.1 (ea_36 _ _ _ _) dX8_act_90 (fun m12 hm12 => ?_)
                have hV := hV.2 m12 hm12
                refine kt_aload_n C dX8_act_91 rfl rfl ?_
                refine kt_get (ci := 8) C 7 (by decide) rfl rfl inlX8 (by decide) wd_125 rfl dX8_act_92 ?_
                refine kt_bipush (v := 8) C dX8_act_95 (by decide) ?_
                refine kt_iload_n C dX8_act_97 rfl rfl ?_
                refine kt_imul C dX8_act_98 ?_
                refine kt_aload_n C dX8_act_99 rfl rfl ?_
                refine kt_get (ci := 8) C 4 (by decide) rfl rfl inlX8 (by decide) wd_122 rfl dX8_act_100 ?_
                refine kt_iload_n C dX8_act_103 rfl rfl ?_
                refine kt_iald C (by decide) rfl hV.1 dX8_act_104 ?_
                have hV := hV.2
                refine kt_iadd C dX8_act_105 ?_
                refine kt_iload C dX8_act_106 rfl ?_
                refine kt_iast2 C rfl rfl hV.1 (ea_37 _ _ _ _) dX8_act_108 (fun m13 hm13 => ?_)
                have hV := hV.2 m13 hm13
                refine kt_aload_n C dX8_act_109 rfl rfl ?_
                refine kt_get (ci := 8) C 4 (by decide) rfl rfl inlX8 (by decide) wd_122 rfl dX8_act_110 ?_
                refine kt_iload_n C dX8_act_113 rfl rfl ?_
                refine kt_dup2 C dX8_act_114 rfl rfl ?_
                refine kt_iald C (by decide) rfl hV.1 dX8_act_115 ?_
                have hV := hV.2
                refine kt_iconst (v := 1) C dX8_act_116 (by decide) ?_
                refine kt_iadd C dX8_act_117 ?_
                refine kt_iast2 C rfl rfl hV.1 (ea_34 _ _ _ _) dX8_act_118 (fun m14 hm14 => ?_)
                have hV := hV.2 m14 hm14
                refine kt_aload_n C dX8_act_119 rfl rfl ?_
                refine kt_get (ci := 8) C 4 (by decide) rfl rfl inlX8 (by decide) wd_122 rfl dX8_act_120 ?_
                refine kt_iload_n C dX8_act_123 rfl rfl ?_
                refine kt_iald C (by decide) rfl hV.1 dX8_act_124 ?_
                have hV := hV.2
                exact kt_iret C ⟨_, rfl, hV⟩ dX8_act_125
              · have hV := hV.2 c51
                refine kt_ldc (v := (-2000003)) C wd_160 dX8_act_54 ?_
                exact kt_iret C ⟨_, rfl, hV⟩ dX8_act_56
            · have hV := hV.2 c37
              refine kt_ldc (v := (-2000002)) C wd_187 dX8_act_40 ?_
              exact kt_iret C ⟨_, rfl, hV⟩ dX8_act_42
  · have hV := hV.2 c5
    refine kt_ldc (v := (-2000001)) C wd_158 dX8_act_8 ?_
    exact kt_iret C ⟨_, rfl, hV⟩ dX8_act_10
theorem hd_X8_fact : yX8_fact.cls = RX8 ∧ yX8_fact.cls ≠ "java/lang/invoke/MethodHandle" ∧ yX8_fact.cls ≠ "java/lang/invoke/VarHandle" ∧ (parseMethodDescriptor yX8_fact.desc).map (fun d => d.parameters.length) = some 3 := by decide +kernel
def V_X8_fact (x1 : Int32) (x2 : Int32) (x3 : Int32) (m : MW) (K : Int32 → MW → Prop) : Prop := (V_X8_isFact  (x1) m (fun v2 m1 => ((¬ v2 = 0 → (V_X8_isEnd  (x2) m1 (fun v4 m3 => ((v4 = 0 → (K (-2000002) m3)) ∧ (¬ v4 = 0 → (V_X8_isEnd  (x3) m3 (fun v6 m5 => ((v6 = 0 → (K (-2000002) m5)) ∧ (¬ v6 = 0 → ((x2 ≤ x3 → (vp_in x1 10 ∧ ∀ m7 : MW, m7 = (m5.1, up2 m5.2 30 (x1).toNatClampNeg x2) → (vp_in x1 10 ∧ ∀ m8 : MW, m8 = (m7.1, up2 m7.2 31 (x1).toNatClampNeg x3) → (K 1 m8)))) ∧ (¬ x2 ≤ x3 → (K (-2000002) m5)))))))))))) ∧ (v2 = 0 → (K (-2000001) m1)))))
set_option maxHeartbeats 4000000 in
set_option maxRecDepth 100000 in
theorem w_X8_fact {l : Launch} {g : GG} {x1 : Int32} {x2 : Int32} {x3 : Int32} {m : MW} {K : Int32 → MW → Prop} (hV : V_X8_fact  x1 x2 x3 m K) : Ct l yX8_fact cX8_fact 4 (some .int) 1 20 [.ref (gad g 22 0), .int x1, .int x2, .int x3] g m (Ei K) := by
  refine ct_intro RX8 (by decide) rfl (Nat.le_of_ble_eq_true rfl) ?_
  intro p e s mi below meth c C
  unfold V_X8_fact at hV
  refine kt_iload_n C dX8_fact_0 rfl rfl ?_
  refine kt_callS (n := 1) C (w_X8_isFact  hV) wd_161 wd_162 wd_5 wd_163 hd_X8_isFact rfl ⟨Nat.le_of_ble_eq_true rfl, Nat.le_of_ble_eq_true rfl⟩ ⟨Nat.zero_le _, Nat.zero_le _⟩ rfl (Nat.le_of_ble_eq_true rfl) dX8_fact_1 (fun r m1 hE => ?_)
  obtain ⟨v2, rfl, hV⟩ := hE
  refine kt_sti ?_
  refine kt_if_ne C 10 dX8_fact_4 rfl (fun c4 => ?_) (fun c4 => ?_)
  · have hV := hV.1 c4
    refine kt_iload_n C dX8_fact_10 rfl rfl ?_
    refine kt_callS (n := 1) C (w_X8_isEnd  hV) wd_192 wd_193 wd_5 wd_194 hd_X8_isEnd rfl ⟨Nat.le_of_ble_eq_true rfl, Nat.le_of_ble_eq_true rfl⟩ ⟨Nat.zero_le _, Nat.zero_le _⟩ rfl (Nat.le_of_ble_eq_true rfl) dX8_fact_11 (fun r m3 hE => ?_)
    obtain ⟨v4, rfl, hV⟩ := hE
    refine kt_sti ?_
    refine kt_if_eq C 29 dX8_fact_14 rfl (fun c14 => ?_) (fun c14 => ?_)
    · have hV := hV.1 c14
      refine kt_ldc (v := (-2000002)) C wd_187 dX8_fact_29 ?_
      exact kt_iret C ⟨_, rfl, hV⟩ dX8_fact_31
    · have hV := hV.2 c14
      refine kt_iload_n C dX8_fact_17 rfl rfl ?_
      refine kt_callS (n := 1) C (w_X8_isEnd  hV) wd_192 wd_193 wd_5 wd_194 hd_X8_isEnd rfl ⟨Nat.le_of_ble_eq_true rfl, Nat.le_of_ble_eq_true rfl⟩ ⟨Nat.zero_le _, Nat.zero_le _⟩ rfl (Nat.le_of_ble_eq_true rfl) dX8_fact_18 (fun r m5 hE => ?_)
      obtain ⟨v6, rfl, hV⟩ := hE
      refine kt_sti ?_
      refine kt_if_eq C 29 dX8_fact_21 rfl (fun c21 => ?_) (fun c21 => ?_)
      · have hV := hV.1 c21
        refine kt_ldc (v := (-2000002)) C wd_187 dX8_fact_29 ?_
        exact kt_iret C ⟨_, rfl, hV⟩ dX8_fact_31
      · have hV := hV.2 c21
        refine kt_iload_n C dX8_fact_24 rfl rfl ?_
        refine kt_iload_n C dX8_fact_25 rfl rfl ?_
        refine kt_icmp_le C 32 dX8_fact_26 rfl (fun c26 => ?_) (fun c26 => ?_)
        · have hV := hV.1 c26
          refine kt_aload_n C dX8_fact_32 rfl rfl ?_
          refine kt_get (ci := 8) C 0 (by decide) rfl rfl inlX8 (by decide) wd_119 rfl dX8_fact_33 ?_
          refine kt_iload_n C dX8_fact_36 rfl rfl ?_
          refine kt_iload_n C dX8_fact_37 rfl rfl ?_
          refine kt_iast2 C rfl rfl hV.1 (ea_30 _ _ _ _) dX8_fact_38 (fun m7 hm7 => ?_)
          have hV := hV.2 m7 hm7
          refine kt_aload_n C dX8_fact_39 rfl rfl ?_
          refine kt_get (ci := 8) C 1 (by decide) rfl rfl inlX8 (by decide) wd_120 rfl dX8_fact_40 ?_
          refine kt_iload_n C dX8_fact_43 rfl rfl ?_
          refine kt_iload_n C dX8_fact_44 rfl rfl ?_
          refine kt_iast2 C rfl rfl hV.1 (ea_31 _ _ _ _) dX8_fact_45 (fun m8 hm8 => ?_)
          have hV := hV.2 m8 hm8
          refine kt_iconst (v := 1) C dX8_fact_46 (by decide) ?_
          exact kt_iret C ⟨_, rfl, hV⟩ dX8_fact_47
        · have hV := hV.2 c26
          refine kt_ldc (v := (-2000002)) C wd_187 dX8_fact_29 ?_
          exact kt_iret C ⟨_, rfl, hV⟩ dX8_fact_31
  · have hV := hV.2 c4
    refine kt_ldc (v := (-2000001)) C wd_158 dX8_fact_7 ?_
    exact kt_iret C ⟨_, rfl, hV⟩ dX8_fact_9
theorem hd_X8_end : yX8_end.cls = RX8 ∧ yX8_end.cls ≠ "java/lang/invoke/MethodHandle" ∧ yX8_end.cls ≠ "java/lang/invoke/VarHandle" ∧ (parseMethodDescriptor yX8_end.desc).map (fun d => d.parameters.length) = some 2 := by decide +kernel
def V_X8_end (x1 : Int32) (x2 : Int32) (m : MW) (K : Int32 → MW → Prop) : Prop := (V_X8_isFact  (x1) m (fun v2 m1 => ((¬ v2 = 0 → ((x2 < 0 → (K (-2000002) m1)) ∧ (¬ x2 < 0 → ((x2 ≤ 1 → (vp_in x1 10 ∧ (vp_in x1 10 ∧ (((m1.2 30 (x1).toNatClampNeg) ≤ (m1.2 31 (x1).toNatClampNeg) → ((¬ x2 = 0 → (vp_in x1 10 ∧ (K (m1.2 31 (x1).toNatClampNeg) m1))) ∧ (x2 = 0 → (vp_in x1 10 ∧ (K (m1.2 30 (x1).toNatClampNeg) m1))))) ∧ (¬ (m1.2 30 (x1).toNatClampNeg) ≤ (m1.2 31 (x1).toNatClampNeg) → (K (-2000000) m1)))))) ∧ (¬ x2 ≤ 1 → (K (-2000002) m1)))))) ∧ (v2 = 0 → (K (-2000001) m1)))))
set_option maxHeartbeats 4000000 in
set_option maxRecDepth 100000 in
theorem w_X8_end {l : Launch} {g : GG} {x1 : Int32} {x2 : Int32} {m : MW} {K : Int32 → MW → Prop} (hV : V_X8_end  x1 x2 m K) : Ct l yX8_end cX8_end 3 (some .int) 1 20 [.ref (gad g 22 0), .int x1, .int x2] g m (Ei K) := by
  refine ct_intro RX8 (by decide) rfl (Nat.le_of_ble_eq_true rfl) ?_
  intro p e s mi below meth c C
  unfold V_X8_end at hV
  refine kt_iload_n C dX8_end_0 rfl rfl ?_
  refine kt_callS (n := 1) C (w_X8_isFact  hV) wd_161 wd_162 wd_5 wd_163 hd_X8_isFact rfl ⟨Nat.le_of_ble_eq_true rfl, Nat.le_of_ble_eq_true rfl⟩ ⟨Nat.zero_le _, Nat.zero_le _⟩ rfl (Nat.le_of_ble_eq_true rfl) dX8_end_1 (fun r m1 hE => ?_)
  obtain ⟨v2, rfl, hV⟩ := hE
  refine kt_sti ?_
  refine kt_if_ne C 10 dX8_end_4 rfl (fun c4 => ?_) (fun c4 => ?_)
  · have hV := hV.1 c4
    refine kt_iload_n C dX8_end_10 rfl rfl ?_
    refine kt_if_lt C 19 dX8_end_11 rfl (fun c11 => ?_) (fun c11 => ?_)
    · have hV := hV.1 c11
      refine kt_ldc (v := (-2000002)) C wd_187 dX8_end_19 ?_
      exact kt_iret C ⟨_, rfl, hV⟩ dX8_end_21
    · have hV := hV.2 c11
      refine kt_iload_n C dX8_end_14 rfl rfl ?_
      refine kt_iconst (v := 1) C dX8_end_15 (by decide) ?_
      refine kt_icmp_le C 22 dX8_end_16 rfl (fun c16 => ?_) (fun c16 => ?_)
      · have hV := hV.1 c16
        refine kt_aload_n C dX8_end_22 rfl rfl ?_
        refine kt_get (ci := 8) C 0 (by decide) rfl rfl inlX8 (by decide) wd_119 rfl dX8_end_23 ?_
        refine kt_iload_n C dX8_end_26 rfl rfl ?_
        refine kt_iald C (by decide) rfl hV.1 dX8_end_27 ?_
        have hV := hV.2
        refine kt_aload_n C dX8_end_28 rfl rfl ?_
        refine kt_get (ci := 8) C 1 (by decide) rfl rfl inlX8 (by decide) wd_120 rfl dX8_end_29 ?_
        refine kt_iload_n C dX8_end_32 rfl rfl ?_
        refine kt_iald C (by decide) rfl hV.1 dX8_end_33 ?_
        have hV := hV.2
        refine kt_icmp_le C 42 dX8_end_34 rfl (fun c34 => ?_) (fun c34 => ?_)
        · have hV := hV.1 c34
          refine kt_iload_n C dX8_end_42 rfl rfl ?_
          refine kt_if_ne C 55 dX8_end_43 rfl (fun c43 => ?_) (fun c43 => ?_)
          · have hV := hV.1 c43
            refine kt_aload_n C dX8_end_55 rfl rfl ?_
            refine kt_get (ci := 8) C 1 (by decide) rfl rfl inlX8 (by decide) wd_120 rfl dX8_end_56 ?_
            refine kt_iload_n C dX8_end_59 rfl rfl ?_
            refine kt_iald C (by decide) rfl hV.1 dX8_end_60 ?_
            have hV := hV.2
            exact kt_iret C ⟨_, rfl, hV⟩ dX8_end_61
          · have hV := hV.2 c43
            refine kt_aload_n C dX8_end_46 rfl rfl ?_
            refine kt_get (ci := 8) C 0 (by decide) rfl rfl inlX8 (by decide) wd_119 rfl dX8_end_47 ?_
            refine kt_iload_n C dX8_end_50 rfl rfl ?_
            refine kt_iald C (by decide) rfl hV.1 dX8_end_51 ?_
            have hV := hV.2
            refine kt_goto C 61 dX8_end_52 rfl ?_
            exact kt_iret C ⟨_, rfl, hV⟩ dX8_end_61
        · have hV := hV.2 c34
          refine kt_ldc (v := (-2000000)) C wd_139 dX8_end_37 ?_
          refine kt_goto C 61 dX8_end_39 rfl ?_
          exact kt_iret C ⟨_, rfl, hV⟩ dX8_end_61
      · have hV := hV.2 c16
        refine kt_ldc (v := (-2000002)) C wd_187 dX8_end_19 ?_
        exact kt_iret C ⟨_, rfl, hV⟩ dX8_end_21
  · have hV := hV.2 c4
    refine kt_ldc (v := (-2000001)) C wd_158 dX8_end_7 ?_
    exact kt_iret C ⟨_, rfl, hV⟩ dX8_end_9
theorem hd_X8_workersLeft : yX8_workersLeft.cls = RX8 ∧ yX8_workersLeft.cls ≠ "java/lang/invoke/MethodHandle" ∧ yX8_workersLeft.cls ≠ "java/lang/invoke/VarHandle" ∧ (parseMethodDescriptor yX8_workersLeft.desc).map (fun d => d.parameters.length) = some 0 := by decide +kernel
def V_X8_workersLeft_4 (n : Nat) (y1 : Int32) (y2 : Int32) (m : MW) (K : Int32 → MW → Prop) : Prop := match n with
  | 0 => False
  | n + 1 => ((4 ≤ y2 → (K y1 m)) ∧ (¬ 4 ≤ y2 → (vp_in y2 4 ∧ (((m.2 50 (y2).toNatClampNeg) = 0 → (V_X8_workersLeft_4 n  ((y1 + 0)) ((y2 + 1)) m K)) ∧ (¬ (m.2 50 (y2).toNatClampNeg) = 0 → (V_X8_workersLeft_4 n  ((y1 + 1)) ((y2 + 1)) m K))))))
def V_X8_workersLeft (m : MW) (K : Int32 → MW → Prop) : Prop := (∃ k : Nat, V_X8_workersLeft_4 k  (0) (0) m K)
set_option maxHeartbeats 4000000 in
set_option maxRecDepth 100000 in
theorem w_X8_workersLeft_4 {p : Program} {l : Launch} {e : Env} {s : State} {mi : MethodId} {args : Array Value} {below : List Frame} {meth : Method} {c : Code} {g : GG} {K : Int32 → MW → Prop} (C : Cx p s mi args meth c cX8_workersLeft RX8 3 (some .int) g) (n : Nat) : ∀ {y1 : Int32} {y2 : Int32} {m : MW}, V_X8_workersLeft_4 n  y1 y2 m K → TT p l e { frames := 0, cells := 0, slots := 0, locals := 0 } s mi args below meth c 0 0 (MQ below (QE g (Ei K)) args s 0 0 (gA g)) g 3 m 4 [(0, .ref (gad g 22 0)), (1, .int (y1)), (2, .int (y2))] [] := by
  induction n with
  | zero => intros; rename_i hV; exact absurd hV (by simp [V_X8_workersLeft_4])
  | succ n ih =>
    intro y1 y2 m hV
    unfold V_X8_workersLeft_4 at hV
    refine kt_iload_n C dX8_workersLeft_4 rfl rfl ?_
    refine kt_iconst (v := 4) C dX8_workersLeft_5 (by decide) ?_
    refine kt_icmp_ge C 32 dX8_workersLeft_6 rfl (fun c6 => ?_) (fun c6 => ?_)
    · have hV := hV.1 c6
      refine kt_iload_n C dX8_workersLeft_32 rfl rfl ?_
      exact kt_iret C ⟨_, rfl, hV⟩ dX8_workersLeft_33
    · have hV := hV.2 c6
      refine kt_iload_n C dX8_workersLeft_9 rfl rfl ?_
      refine kt_aload_n C dX8_workersLeft_10 rfl rfl ?_
      refine kt_get (ci := 8) C 20 (by decide) rfl rfl inlX8 (by decide) wd_136 rfl dX8_workersLeft_11 ?_
      refine kt_iload_n C dX8_workersLeft_14 rfl rfl ?_
      refine kt_zald C (by decide) rfl hV.1 dX8_workersLeft_15 ?_
      have hV := hV.2
      refine kt_if_eq C 23 dX8_workersLeft_16 rfl (fun c16 => ?_) (fun c16 => ?_)
      · have hV := hV.1 c16
        refine kt_iconst (v := 0) C dX8_workersLeft_23 (by decide) ?_
        refine kt_iadd C dX8_workersLeft_24 ?_
        refine kt_istore_n (lv' := [(1, .int _), (0, .ref _), (2, .int _)]) C dX8_workersLeft_25 rfl (by decide) rfl ?_
        refine kt_iinc (v := _ + 1) (lv' := [(2, .int _), (1, .int _), (0, .ref _)]) C dX8_workersLeft_26 rfl rfl (by decide) rfl ?_
        refine kt_goto C 4 dX8_workersLeft_29 rfl ?_
        refine kt_pick (lv' := [(0, .ref _), (1, .int _), (2, .int _)]) [2, 1, 0] rfl ?_
        exact ih  hV
      · have hV := hV.2 c16
        refine kt_iconst (v := 1) C dX8_workersLeft_19 (by decide) ?_
        refine kt_goto C 24 dX8_workersLeft_20 rfl ?_
        refine kt_iadd C dX8_workersLeft_24 ?_
        refine kt_istore_n (lv' := [(1, .int _), (0, .ref _), (2, .int _)]) C dX8_workersLeft_25 rfl (by decide) rfl ?_
        refine kt_iinc (v := _ + 1) (lv' := [(2, .int _), (1, .int _), (0, .ref _)]) C dX8_workersLeft_26 rfl rfl (by decide) rfl ?_
        refine kt_goto C 4 dX8_workersLeft_29 rfl ?_
        refine kt_pick (lv' := [(0, .ref _), (1, .int _), (2, .int _)]) [2, 1, 0] rfl ?_
        exact ih  hV
set_option maxHeartbeats 4000000 in
set_option maxRecDepth 100000 in
theorem w_X8_workersLeft {l : Launch} {g : GG} {m : MW} {K : Int32 → MW → Prop} (hV : V_X8_workersLeft   m K) : Ct l yX8_workersLeft cX8_workersLeft 3 (some .int) 0 0 [.ref (gad g 22 0)] g m (Ei K) := by
  refine ct_intro RX8 (by decide) rfl (Nat.le_of_ble_eq_true rfl) ?_
  intro p e s mi below meth c C
  unfold V_X8_workersLeft at hV
  refine kt_iconst (v := 0) C dX8_workersLeft_0 (by decide) ?_
  refine kt_istore_n (lv' := [(1, .int _), (0, .ref _)]) C dX8_workersLeft_1 rfl (by decide) rfl ?_
  refine kt_iconst (v := 0) C dX8_workersLeft_2 (by decide) ?_
  refine kt_istore_n (lv' := [(2, .int _), (1, .int _), (0, .ref _)]) C dX8_workersLeft_3 rfl (by decide) rfl ?_
  obtain ⟨k, hV⟩ := hV
  refine kt_pick (lv' := [(0, .ref _), (1, .int _), (2, .int _)]) [2, 1, 0] rfl ?_
  exact w_X8_workersLeft_4 C  k hV
theorem hd_X8_workers : yX8_workers.cls = RX8 ∧ yX8_workers.cls ≠ "java/lang/invoke/MethodHandle" ∧ yX8_workers.cls ≠ "java/lang/invoke/VarHandle" ∧ (parseMethodDescriptor yX8_workers.desc).map (fun d => d.parameters.length) = some 1 := by decide +kernel
def V_X8_workers_20 (n : Nat) (y1 : Int32) (y2 : Int32) (y3 : Int32) (m : MW) (K : Int32 → MW → Prop) : Prop := match n with
  | 0 => False
  | n + 1 => ((4 ≤ y3 → (K y2 m)) ∧ (¬ 4 ≤ y3 → ((y1 ≤ y3 → (vp_in y3 4 ∧ ∀ m3 : MW, m3 = (m.1, up2 m.2 50 (y3).toNatClampNeg 0) → (vp_in y3 4 ∧ ∀ m4 : MW, m4 = (m3.1, up2 m3.2 51 (y3).toNatClampNeg 0) → (V_X8_workers_20 n  (y1) (y2) ((y3 + 1)) m4 K)))) ∧ (¬ y1 ≤ y3 → (vp_in y3 4 ∧ ∀ m5 : MW, m5 = (m.1, up2 m.2 50 (y3).toNatClampNeg 1) → (vp_in y3 4 ∧ ∀ m6 : MW, m6 = (m5.1, up2 m5.2 51 (y3).toNatClampNeg 0) → (V_X8_workers_20 n  (y1) (y2) ((y3 + 1)) m6 K)))))))
def V_X8_workers (x1 : Int32) (m : MW) (K : Int32 → MW → Prop) : Prop := ((x1 < 1 → (K (-2000002) m)) ∧ (¬ x1 < 1 → ((x1 ≤ 4 → (V_X8_workersLeft   m (fun v2 m1 => (∃ k : Nat, V_X8_workers_20 k  (x1) (v2) (0) m1 K)))) ∧ (¬ x1 ≤ 4 → (K (-2000002) m)))))
set_option maxHeartbeats 4000000 in
set_option maxRecDepth 100000 in
theorem w_X8_workers_20 {p : Program} {l : Launch} {e : Env} {s : State} {mi : MethodId} {args : Array Value} {below : List Frame} {meth : Method} {c : Code} {g : GG} {K : Int32 → MW → Prop} (C : Cx p s mi args meth c cX8_workers RX8 4 (some .int) g) (n : Nat) : ∀ {y1 : Int32} {y2 : Int32} {y3 : Int32} {m : MW}, V_X8_workers_20 n  y1 y2 y3 m K → TT p l e { frames := 1, cells := 0, slots := 0, locals := 22 } s mi args below meth c 0 0 (MQ below (QE g (Ei K)) args s 0 0 (gA g)) g 4 m 20 [(0, .ref (gad g 22 0)), (1, .int (y1)), (2, .int (y2)), (3, .int (y3))] [] := by
  induction n with
  | zero => intros; rename_i hV; exact absurd hV (by simp [V_X8_workers_20])
  | succ n ih =>
    intro y1 y2 y3 m hV
    unfold V_X8_workers_20 at hV
    refine kt_iload_n C dX8_workers_20 rfl rfl ?_
    refine kt_iconst (v := 4) C dX8_workers_21 (by decide) ?_
    refine kt_icmp_ge C 54 dX8_workers_22 rfl (fun c22 => ?_) (fun c22 => ?_)
    · have hV := hV.1 c22
      refine kt_iload_n C dX8_workers_54 rfl rfl ?_
      exact kt_iret C ⟨_, rfl, hV⟩ dX8_workers_55
    · have hV := hV.2 c22
      refine kt_aload_n C dX8_workers_25 rfl rfl ?_
      refine kt_get (ci := 8) C 20 (by decide) rfl rfl inlX8 (by decide) wd_136 rfl dX8_workers_26 ?_
      refine kt_iload_n C dX8_workers_29 rfl rfl ?_
      refine kt_iload_n C dX8_workers_30 rfl rfl ?_
      refine kt_iload_n C dX8_workers_31 rfl rfl ?_
      refine kt_icmp_ge C 39 dX8_workers_32 rfl (fun c32 => ?_) (fun c32 => ?_)
      · have hV := hV.1 c32
        refine kt_iconst (v := 0) C dX8_workers_39 (by decide) ?_
        refine kt_zast2 (v' := 0) C rfl rfl hV.1 rfl (ea_50 _ _ _ _) dX8_workers_40 (fun m3 hm3 => ?_)
        have hV := hV.2 m3 hm3
        refine kt_aload_n C dX8_workers_41 rfl rfl ?_
        refine kt_get (ci := 8) C 21 (by decide) rfl rfl inlX8 (by decide) wd_137 rfl dX8_workers_42 ?_
        refine kt_iload_n C dX8_workers_45 rfl rfl ?_
        refine kt_iconst (v := 0) C dX8_workers_46 (by decide) ?_
        refine kt_iast2 C rfl rfl hV.1 (ea_51 _ _ _ _) dX8_workers_47 (fun m4 hm4 => ?_)
        have hV := hV.2 m4 hm4
        refine kt_iinc (v := _ + 1) (lv' := [(3, .int _), (0, .ref _), (1, .int _), (2, .int _)]) C dX8_workers_48 rfl rfl (by decide) rfl ?_
        refine kt_goto C 20 dX8_workers_51 rfl ?_
        refine kt_pick (lv' := [(0, .ref _), (1, .int _), (2, .int _), (3, .int _)]) [1, 2, 3, 0] rfl ?_
        exact ih  hV
      · have hV := hV.2 c32
        refine kt_iconst (v := 1) C dX8_workers_35 (by decide) ?_
        refine kt_goto C 40 dX8_workers_36 rfl ?_
        refine kt_zast2 (v' := 1) C rfl rfl hV.1 rfl (ea_50 _ _ _ _) dX8_workers_40 (fun m5 hm5 => ?_)
        have hV := hV.2 m5 hm5
        refine kt_aload_n C dX8_workers_41 rfl rfl ?_
        refine kt_get (ci := 8) C 21 (by decide) rfl rfl inlX8 (by decide) wd_137 rfl dX8_workers_42 ?_
        refine kt_iload_n C dX8_workers_45 rfl rfl ?_
        refine kt_iconst (v := 0) C dX8_workers_46 (by decide) ?_
        refine kt_iast2 C rfl rfl hV.1 (ea_51 _ _ _ _) dX8_workers_47 (fun m6 hm6 => ?_)
        have hV := hV.2 m6 hm6
        refine kt_iinc (v := _ + 1) (lv' := [(3, .int _), (0, .ref _), (1, .int _), (2, .int _)]) C dX8_workers_48 rfl rfl (by decide) rfl ?_
        refine kt_goto C 20 dX8_workers_51 rfl ?_
        refine kt_pick (lv' := [(0, .ref _), (1, .int _), (2, .int _), (3, .int _)]) [1, 2, 3, 0] rfl ?_
        exact ih  hV
set_option maxHeartbeats 4000000 in
set_option maxRecDepth 100000 in
theorem w_X8_workers {l : Launch} {g : GG} {x1 : Int32} {m : MW} {K : Int32 → MW → Prop} (hV : V_X8_workers  x1 m K) : Ct l yX8_workers cX8_workers 4 (some .int) 1 22 [.ref (gad g 22 0), .int x1] g m (Ei K) := by
  refine ct_intro RX8 (by decide) rfl (Nat.le_of_ble_eq_true rfl) ?_
  intro p e s mi below meth c C
  unfold V_X8_workers at hV
  refine kt_iload_n C dX8_workers_0 rfl rfl ?_
  refine kt_iconst (v := 1) C dX8_workers_1 (by decide) ?_
  refine kt_icmp_lt C 10 dX8_workers_2 rfl (fun c2 => ?_) (fun c2 => ?_)
  · have hV := hV.1 c2
    refine kt_ldc (v := (-2000002)) C wd_187 dX8_workers_10 ?_
    exact kt_iret C ⟨_, rfl, hV⟩ dX8_workers_12
  · have hV := hV.2 c2
    refine kt_iload_n C dX8_workers_5 rfl rfl ?_
    refine kt_iconst (v := 4) C dX8_workers_6 (by decide) ?_
    refine kt_icmp_le C 13 dX8_workers_7 rfl (fun c7 => ?_) (fun c7 => ?_)
    · have hV := hV.1 c7
      refine kt_aload_n C dX8_workers_13 rfl rfl ?_
      refine kt_callV (n := 0) C (w_X8_workersLeft  hV) (by decide) rfl rfl wd_231 wd_232 wd_233 wd_5 wd_234 hd_X8_workersLeft rfl ⟨Nat.le_of_ble_eq_true rfl, Nat.le_of_ble_eq_true rfl⟩ ⟨Nat.zero_le _, Nat.zero_le _⟩ rfl (Nat.le_of_ble_eq_true rfl) dX8_workers_14 (fun r m1 hE => ?_)
      obtain ⟨v2, rfl, hV⟩ := hE
      refine kt_sti ?_
      refine kt_istore_n (lv' := [(2, .int _), (0, .ref _), (1, .int _)]) C dX8_workers_17 rfl (by decide) rfl ?_
      refine kt_iconst (v := 0) C dX8_workers_18 (by decide) ?_
      refine kt_istore_n (lv' := [(3, .int _), (2, .int _), (0, .ref _), (1, .int _)]) C dX8_workers_19 rfl (by decide) rfl ?_
      obtain ⟨k, hV⟩ := hV
      refine kt_pick (lv' := [(0, .ref _), (1, .int _), (2, .int _), (3, .int _)]) [2, 3, 1, 0] rfl ?_
      exact w_X8_workers_20 C  k hV
    · have hV := hV.2 c7
      refine kt_ldc (v := (-2000002)) C wd_187 dX8_workers_10 ?_
      exact kt_iret C ⟨_, rfl, hV⟩ dX8_workers_12
theorem hd_X8_lose : yX8_lose.cls = RX8 ∧ yX8_lose.cls ≠ "java/lang/invoke/MethodHandle" ∧ yX8_lose.cls ≠ "java/lang/invoke/VarHandle" ∧ (parseMethodDescriptor yX8_lose.desc).map (fun d => d.parameters.length) = some 2 := by decide +kernel
def V_X8_lose (x1 : Int32) (x2 : Int32) (m : MW) (K : Int32 → MW → Prop) : Prop := ((x1 < 0 → (K (-2000001) m)) ∧ (¬ x1 < 0 → ((3 < x1 → (K (-2000001) m)) ∧ (¬ 3 < x1 → (vp_in x1 4 ∧ ((¬ (m.2 50 (x1).toNatClampNeg) = 0 → ((x2 < 1 → (K (-2000002) m)) ∧ (¬ x2 < 1 → ((x2 ≤ (100000) → (vp_in x1 4 ∧ ∀ m1 : MW, m1 = (m.1, up2 m.2 51 (x1).toNatClampNeg x2) → (K 1 m1))) ∧ (¬ x2 ≤ (100000) → (K (-2000002) m)))))) ∧ ((m.2 50 (x1).toNatClampNeg) = 0 → (K (-2000001) m))))))))
set_option maxHeartbeats 4000000 in
set_option maxRecDepth 100000 in
theorem w_X8_lose {l : Launch} {g : GG} {x1 : Int32} {x2 : Int32} {m : MW} {K : Int32 → MW → Prop} (hV : V_X8_lose  x1 x2 m K) : Ct l yX8_lose cX8_lose 3 (some .int) 0 0 [.ref (gad g 22 0), .int x1, .int x2] g m (Ei K) := by
  refine ct_intro RX8 (by decide) rfl (Nat.le_of_ble_eq_true rfl) ?_
  intro p e s mi below meth c C
  unfold V_X8_lose at hV
  refine kt_iload_n C dX8_lose_0 rfl rfl ?_
  refine kt_if_lt C 18 dX8_lose_1 rfl (fun c1 => ?_) (fun c1 => ?_)
  · have hV := hV.1 c1
    refine kt_ldc (v := (-2000001)) C wd_158 dX8_lose_18 ?_
    exact kt_iret C ⟨_, rfl, hV⟩ dX8_lose_20
  · have hV := hV.2 c1
    refine kt_iload_n C dX8_lose_4 rfl rfl ?_
    refine kt_iconst (v := 3) C dX8_lose_5 (by decide) ?_
    refine kt_icmp_gt C 18 dX8_lose_6 rfl (fun c6 => ?_) (fun c6 => ?_)
    · have hV := hV.1 c6
      refine kt_ldc (v := (-2000001)) C wd_158 dX8_lose_18 ?_
      exact kt_iret C ⟨_, rfl, hV⟩ dX8_lose_20
    · have hV := hV.2 c6
      refine kt_aload_n C dX8_lose_9 rfl rfl ?_
      refine kt_get (ci := 8) C 20 (by decide) rfl rfl inlX8 (by decide) wd_136 rfl dX8_lose_10 ?_
      refine kt_iload_n C dX8_lose_13 rfl rfl ?_
      refine kt_zald C (by decide) rfl hV.1 dX8_lose_14 ?_
      have hV := hV.2
      refine kt_if_ne C 21 dX8_lose_15 rfl (fun c15 => ?_) (fun c15 => ?_)
      · have hV := hV.1 c15
        refine kt_iload_n C dX8_lose_21 rfl rfl ?_
        refine kt_iconst (v := 1) C dX8_lose_22 (by decide) ?_
        refine kt_icmp_lt C 32 dX8_lose_23 rfl (fun c23 => ?_) (fun c23 => ?_)
        · have hV := hV.1 c23
          refine kt_ldc (v := (-2000002)) C wd_187 dX8_lose_32 ?_
          exact kt_iret C ⟨_, rfl, hV⟩ dX8_lose_34
        · have hV := hV.2 c23
          refine kt_iload_n C dX8_lose_26 rfl rfl ?_
          refine kt_ldc (v := (100000)) C wd_250 dX8_lose_27 ?_
          refine kt_icmp_le C 35 dX8_lose_29 rfl (fun c29 => ?_) (fun c29 => ?_)
          · have hV := hV.1 c29
            refine kt_aload_n C dX8_lose_35 rfl rfl ?_
            refine kt_get (ci := 8) C 21 (by decide) rfl rfl inlX8 (by decide) wd_137 rfl dX8_lose_36 ?_
            refine kt_iload_n C dX8_lose_39 rfl rfl ?_
            refine kt_iload_n C dX8_lose_40 rfl rfl ?_
            refine kt_iast2 C rfl rfl hV.1 (ea_51 _ _ _ _) dX8_lose_41 (fun m1 hm1 => ?_)
            have hV := hV.2 m1 hm1
            refine kt_iconst (v := 1) C dX8_lose_42 (by decide) ?_
            exact kt_iret C ⟨_, rfl, hV⟩ dX8_lose_43
          · have hV := hV.2 c29
            refine kt_ldc (v := (-2000002)) C wd_187 dX8_lose_32 ?_
            exact kt_iret C ⟨_, rfl, hV⟩ dX8_lose_34
      · have hV := hV.2 c15
        refine kt_ldc (v := (-2000001)) C wd_158 dX8_lose_18 ?_
        exact kt_iret C ⟨_, rfl, hV⟩ dX8_lose_20
theorem hd_X8_seed : yX8_seed.cls = RX8 ∧ yX8_seed.cls ≠ "java/lang/invoke/MethodHandle" ∧ yX8_seed.cls ≠ "java/lang/invoke/VarHandle" ∧ (parseMethodDescriptor yX8_seed.desc).map (fun d => d.parameters.length) = some 1 := by decide +kernel
def V_X8_seed (x1 : Int32) (m : MW) (K : Int32 → MW → Prop) : Prop := (∀ m1 : MW, m1 = (m.1, up2 m.2 22 24 x1) → (K (m.2 22 24) m1))
set_option maxHeartbeats 4000000 in
set_option maxRecDepth 100000 in
theorem w_X8_seed {l : Launch} {g : GG} {x1 : Int32} {m : MW} {K : Int32 → MW → Prop} (hV : V_X8_seed  x1 m K) : Ct l yX8_seed cX8_seed 3 (some .int) 0 0 [.ref (gad g 22 0), .int x1] g m (Ei K) := by
  refine ct_intro RX8 (by decide) rfl (Nat.le_of_ble_eq_true rfl) ?_
  intro p e s mi below meth c C
  unfold V_X8_seed at hV
  refine kt_aload_n C dX8_seed_0 rfl rfl ?_
  refine kt_get (ci := 8) C 24 (by decide) rfl rfl inlX8 (by decide) wd_260 rfl dX8_seed_1 ?_
  refine kt_istore_n (lv' := [(2, .int _), (0, .ref _), (1, .int _)]) C dX8_seed_4 rfl (by decide) rfl ?_
  refine kt_aload_n C dX8_seed_5 rfl rfl ?_
  refine kt_iload_n C dX8_seed_6 rfl rfl ?_
  refine kt_put2 (ty := .int) C 24 rfl (by decide) wd_260 rfl (by decide +kernel) rfl rfl (Nat.le_of_ble_eq_true rfl) (ep2_24 _ _ _) dX8_seed_7 (fun m1 hm1 => ?_)
  have hV := hV m1 hm1
  refine kt_iload_n C dX8_seed_10 rfl rfl ?_
  exact kt_iret C ⟨_, rfl, hV⟩ dX8_seed_11
theorem hd_X8_set : yX8_set.cls = RX8 ∧ yX8_set.cls ≠ "java/lang/invoke/MethodHandle" ∧ yX8_set.cls ≠ "java/lang/invoke/VarHandle" ∧ (parseMethodDescriptor yX8_set.desc).map (fun d => d.parameters.length) = some 2 := by decide +kernel
def V_X8_set (x1 : Int32) (x2 : Int32) (m : MW) (K : Int32 → MW → Prop) : Prop := ((x1 < 1 → (K (-2000002) m)) ∧ (¬ x1 < 1 → ((20 < x1 → (K (-2000002) m)) ∧ (¬ 20 < x1 → ((x2 < 0 → (K (-2000002) m)) ∧ (¬ x2 < 0 → ((x2 ≤ 10000 → (∀ m1 : MW, m1 = (m.1, up2 m.2 22 26 x1) → (∀ m2 : MW, m2 = (m1.1, up2 m1.2 22 27 x2) → (K (m.2 22 26) m2)))) ∧ (¬ x2 ≤ 10000 → (K (-2000002) m)))))))))
set_option maxHeartbeats 4000000 in
set_option maxRecDepth 100000 in
theorem w_X8_set {l : Launch} {g : GG} {x1 : Int32} {x2 : Int32} {m : MW} {K : Int32 → MW → Prop} (hV : V_X8_set  x1 x2 m K) : Ct l yX8_set cX8_set 4 (some .int) 0 0 [.ref (gad g 22 0), .int x1, .int x2] g m (Ei K) := by
  refine ct_intro RX8 (by decide) rfl (Nat.le_of_ble_eq_true rfl) ?_
  intro p e s mi below meth c C
  unfold V_X8_set at hV
  refine kt_iload_n C dX8_set_0 rfl rfl ?_
  refine kt_iconst (v := 1) C dX8_set_1 (by decide) ?_
  refine kt_icmp_lt C 22 dX8_set_2 rfl (fun c2 => ?_) (fun c2 => ?_)
  · have hV := hV.1 c2
    refine kt_ldc (v := (-2000002)) C wd_187 dX8_set_22 ?_
    exact kt_iret C ⟨_, rfl, hV⟩ dX8_set_24
  · have hV := hV.2 c2
    refine kt_iload_n C dX8_set_5 rfl rfl ?_
    refine kt_bipush (v := 20) C dX8_set_6 (by decide) ?_
    refine kt_icmp_gt C 22 dX8_set_8 rfl (fun c8 => ?_) (fun c8 => ?_)
    · have hV := hV.1 c8
      refine kt_ldc (v := (-2000002)) C wd_187 dX8_set_22 ?_
      exact kt_iret C ⟨_, rfl, hV⟩ dX8_set_24
    · have hV := hV.2 c8
      refine kt_iload_n C dX8_set_11 rfl rfl ?_
      refine kt_if_lt C 22 dX8_set_12 rfl (fun c12 => ?_) (fun c12 => ?_)
      · have hV := hV.1 c12
        refine kt_ldc (v := (-2000002)) C wd_187 dX8_set_22 ?_
        exact kt_iret C ⟨_, rfl, hV⟩ dX8_set_24
      · have hV := hV.2 c12
        refine kt_iload_n C dX8_set_15 rfl rfl ?_
        refine kt_sipush (v := 10000) C dX8_set_16 (by decide) ?_
        refine kt_icmp_le C 25 dX8_set_19 rfl (fun c19 => ?_) (fun c19 => ?_)
        · have hV := hV.1 c19
          refine kt_aload_n C dX8_set_25 rfl rfl ?_
          refine kt_get (ci := 8) C 26 (by decide) rfl rfl inlX8 (by decide) wd_141 rfl dX8_set_26 ?_
          refine kt_istore_n (lv' := [(3, .int _), (0, .ref _), (1, .int _), (2, .int _)]) C dX8_set_29 rfl (by decide) rfl ?_
          refine kt_aload_n C dX8_set_30 rfl rfl ?_
          refine kt_iload_n C dX8_set_31 rfl rfl ?_
          refine kt_put2 (ty := .int) C 26 rfl (by decide) wd_141 rfl (by decide +kernel) rfl rfl (Nat.le_of_ble_eq_true rfl) (ep2_26 _ _ _) dX8_set_32 (fun m1 hm1 => ?_)
          have hV := hV m1 hm1
          refine kt_aload_n C dX8_set_35 rfl rfl ?_
          refine kt_iload_n C dX8_set_36 rfl rfl ?_
          refine kt_put2 (ty := .int) C 27 rfl (by decide) wd_142 rfl (by decide +kernel) rfl rfl (Nat.le_of_ble_eq_true rfl) (ep2_27 _ _ _) dX8_set_37 (fun m2 hm2 => ?_)
          have hV := hV m2 hm2
          refine kt_iload_n C dX8_set_40 rfl rfl ?_
          exact kt_iret C ⟨_, rfl, hV⟩ dX8_set_41
        · have hV := hV.2 c19
          refine kt_ldc (v := (-2000002)) C wd_187 dX8_set_22 ?_
          exact kt_iret C ⟨_, rfl, hV⟩ dX8_set_24
theorem hd_X8_nearest : yX8_nearest.cls = RX8 ∧ yX8_nearest.cls ≠ "java/lang/invoke/MethodHandle" ∧ yX8_nearest.cls ≠ "java/lang/invoke/VarHandle" ∧ (parseMethodDescriptor yX8_nearest.desc).map (fun d => d.parameters.length) = some 1 := by decide +kernel
def V_X8_nearest (x0 : Int64) (m : MW) (K : Int32 → MW → Prop) : Prop := ((0 ≤ (lg_cmp x0 (-1000000)) → (((lg_cmp x0 (1000000)) ≤ 0 → (K (Int64.toInt32 x0) m)) ∧ (¬ (lg_cmp x0 (1000000)) ≤ 0 → (K (1000000) m)))) ∧ (¬ 0 ≤ (lg_cmp x0 (-1000000)) → (K (-1000000) m)))
set_option maxHeartbeats 4000000 in
set_option maxRecDepth 100000 in
theorem w_X8_nearest {l : Launch} {g : GG} {x0 : Int64} {m : MW} {K : Int32 → MW → Prop} (hV : V_X8_nearest  x0 m K) : Ct l yX8_nearest cX8_nearest 2 (some .int) 0 0 [.long x0] g m (Ei K) := by
  refine ct_intro RX8 (by decide) rfl (Nat.le_of_ble_eq_true rfl) ?_
  intro p e s mi below meth c C
  unfold V_X8_nearest at hV
  refine kt_lload_n C dX8_nearest_0 rfl rfl ?_
  refine kt_ldc2 (v := (-1000000)) C wd_494 dX8_nearest_1 ?_
  refine kt_lcmp C dX8_nearest_4 ?_
  refine kt_if_ge C 13 dX8_nearest_5 rfl (fun c5 => ?_) (fun c5 => ?_)
  · have hV := hV.1 c5
    refine kt_lload_n C dX8_nearest_13 rfl rfl ?_
    refine kt_ldc2 (v := (1000000)) C wd_495 dX8_nearest_14 ?_
    refine kt_lcmp C dX8_nearest_17 ?_
    refine kt_if_le C 26 dX8_nearest_18 rfl (fun c18 => ?_) (fun c18 => ?_)
    · have hV := hV.1 c18
      refine kt_lload_n C dX8_nearest_26 rfl rfl ?_
      refine kt_l2i C dX8_nearest_27 rfl ?_
      exact kt_iret C ⟨_, rfl, hV⟩ dX8_nearest_28
    · have hV := hV.2 c18
      refine kt_ldc (v := (1000000)) C wd_196 dX8_nearest_21 ?_
      refine kt_goto C 28 dX8_nearest_23 rfl ?_
      exact kt_iret C ⟨_, rfl, hV⟩ dX8_nearest_28
  · have hV := hV.2 c5
    refine kt_ldc (v := (-1000000)) C wd_195 dX8_nearest_8 ?_
    refine kt_goto C 28 dX8_nearest_10 rfl ?_
    exact kt_iret C ⟨_, rfl, hV⟩ dX8_nearest_28
theorem hd_X8_begin : yX8_begin.cls = RX8 ∧ yX8_begin.cls ≠ "java/lang/invoke/MethodHandle" ∧ yX8_begin.cls ≠ "java/lang/invoke/VarHandle" ∧ (parseMethodDescriptor yX8_begin.desc).map (fun d => d.parameters.length) = some 1 := by decide +kernel
def V_X8_begin_23 (n : Nat) (y1 : Int32) (y2 : Int32) (m : MW) (K : MW → Prop) : Prop := match n with
  | 0 => False
  | n + 1 => ((3 ≤ y2 → (K m)) ∧ (¬ 3 ≤ y2 → (vp_in ((3 * y1) + y2) 30 ∧ ∀ m4 : MW, m4 = (m.1, up2 m.2 42 (((3 * y1) + y2)).toNatClampNeg 1) → (vp_in ((3 * y1) + y2) 30 ∧ ∀ m5 : MW, m5 = (m4.1, up2 m4.2 43 (((3 * y1) + y2)).toNatClampNeg 0) → (V_X8_begin_23 n  (y1) ((y2 + 1)) m5 K)))))
def V_X8_begin (x1 : Int32) (m : MW) (K : MW → Prop) : Prop := (vp_in x1 10 ∧ ∀ m1 : MW, m1 = (m.1, up2 m.2 38 (x1).toNatClampNeg 0) → (vp_in x1 10 ∧ ∀ m2 : MW, m2 = (m1.1, up2 m1.2 39 (x1).toNatClampNeg 0) → (vp_in x1 10 ∧ ∀ m3 : MW, m3 = (m2.1, up2 m2.2 44 (x1).toNatClampNeg 0) → (∃ k : Nat, V_X8_begin_23 k  (x1) (0) m3 K))))
set_option maxHeartbeats 4000000 in
set_option maxRecDepth 100000 in
theorem w_X8_begin_23 {p : Program} {l : Launch} {e : Env} {s : State} {mi : MethodId} {args : Array Value} {below : List Frame} {meth : Method} {c : Code} {g : GG} {K : MW → Prop} (C : Cx p s mi args meth c cX8_begin RX8 3 none g) (n : Nat) : ∀ {y1 : Int32} {y2 : Int32} {m : MW}, V_X8_begin_23 n  y1 y2 m K → TT p l e { frames := 0, cells := 0, slots := 0, locals := 0 } s mi args below meth c 0 0 (MQ below (QE g (Ev K)) args s 0 0 (gA g)) g 3 m 23 [(0, .ref (gad g 22 0)), (1, .int (y1)), (2, .int (y2))] [] := by
  induction n with
  | zero => intros; rename_i hV; exact absurd hV (by simp [V_X8_begin_23])
  | succ n ih =>
    intro y1 y2 m hV
    unfold V_X8_begin_23 at hV
    refine kt_iload_n C dX8_begin_23 rfl rfl ?_
    refine kt_iconst (v := 3) C dX8_begin_24 (by decide) ?_
    refine kt_icmp_ge C 56 dX8_begin_25 rfl (fun c25 => ?_) (fun c25 => ?_)
    · have hV := hV.1 c25
      exact kt_vret C ⟨rfl, hV⟩ dX8_begin_56
    · have hV := hV.2 c25
      refine kt_aload_n C dX8_begin_28 rfl rfl ?_
      refine kt_get (ci := 8) C 12 (by decide) rfl rfl inlX8 (by decide) wd_130 rfl dX8_begin_29 ?_
      refine kt_iconst (v := 3) C dX8_begin_32 (by decide) ?_
      refine kt_iload_n C dX8_begin_33 rfl rfl ?_
      refine kt_imul C dX8_begin_34 ?_
      refine kt_iload_n C dX8_begin_35 rfl rfl ?_
      refine kt_iadd C dX8_begin_36 ?_
      refine kt_iconst (v := 1) C dX8_begin_37 (by decide) ?_
      refine kt_iast2 C rfl rfl hV.1 (ea_42 _ _ _ _) dX8_begin_38 (fun m4 hm4 => ?_)
      have hV := hV.2 m4 hm4
      refine kt_aload_n C dX8_begin_39 rfl rfl ?_
      refine kt_get (ci := 8) C 13 (by decide) rfl rfl inlX8 (by decide) wd_131 rfl dX8_begin_40 ?_
      refine kt_iconst (v := 3) C dX8_begin_43 (by decide) ?_
      refine kt_iload_n C dX8_begin_44 rfl rfl ?_
      refine kt_imul C dX8_begin_45 ?_
      refine kt_iload_n C dX8_begin_46 rfl rfl ?_
      refine kt_iadd C dX8_begin_47 ?_
      refine kt_iconst (v := 0) C dX8_begin_48 (by decide) ?_
      refine kt_iast2 C rfl rfl hV.1 (ea_43 _ _ _ _) dX8_begin_49 (fun m5 hm5 => ?_)
      have hV := hV.2 m5 hm5
      refine kt_iinc (v := _ + 1) (lv' := [(2, .int _), (0, .ref _), (1, .int _)]) C dX8_begin_50 rfl rfl (by decide) rfl ?_
      refine kt_goto C 23 dX8_begin_53 rfl ?_
      refine kt_pick (lv' := [(0, .ref _), (1, .int _), (2, .int _)]) [1, 2, 0] rfl ?_
      exact ih  hV
set_option maxHeartbeats 4000000 in
set_option maxRecDepth 100000 in
theorem w_X8_begin {l : Launch} {g : GG} {x1 : Int32} {m : MW} {K : MW → Prop} (hV : V_X8_begin  x1 m K) : Ct l yX8_begin cX8_begin 3 none 0 0 [.ref (gad g 22 0), .int x1] g m (Ev K) := by
  refine ct_intro RX8 (by decide) rfl (Nat.le_of_ble_eq_true rfl) ?_
  intro p e s mi below meth c C
  unfold V_X8_begin at hV
  refine kt_aload_n C dX8_begin_0 rfl rfl ?_
  refine kt_get (ci := 8) C 8 (by decide) rfl rfl inlX8 (by decide) wd_126 rfl dX8_begin_1 ?_
  refine kt_iload_n C dX8_begin_4 rfl rfl ?_
  refine kt_iconst (v := 0) C dX8_begin_5 (by decide) ?_
  refine kt_iast2 C rfl rfl hV.1 (ea_38 _ _ _ _) dX8_begin_6 (fun m1 hm1 => ?_)
  have hV := hV.2 m1 hm1
  refine kt_aload_n C dX8_begin_7 rfl rfl ?_
  refine kt_get (ci := 8) C 9 (by decide) rfl rfl inlX8 (by decide) wd_127 rfl dX8_begin_8 ?_
  refine kt_iload_n C dX8_begin_11 rfl rfl ?_
  refine kt_iconst (v := 0) C dX8_begin_12 (by decide) ?_
  refine kt_iast2 C rfl rfl hV.1 (ea_39 _ _ _ _) dX8_begin_13 (fun m2 hm2 => ?_)
  have hV := hV.2 m2 hm2
  refine kt_aload_n C dX8_begin_14 rfl rfl ?_
  refine kt_get (ci := 8) C 14 (by decide) rfl rfl inlX8 (by decide) wd_132 rfl dX8_begin_15 ?_
  refine kt_iload_n C dX8_begin_18 rfl rfl ?_
  refine kt_iconst (v := 0) C dX8_begin_19 (by decide) ?_
  refine kt_iast2 C rfl rfl hV.1 (ea_44 _ _ _ _) dX8_begin_20 (fun m3 hm3 => ?_)
  have hV := hV.2 m3 hm3
  refine kt_iconst (v := 0) C dX8_begin_21 (by decide) ?_
  refine kt_istore_n (lv' := [(2, .int _), (0, .ref _), (1, .int _)]) C dX8_begin_22 rfl (by decide) rfl ?_
  obtain ⟨k, hV⟩ := hV
  refine kt_pick (lv' := [(0, .ref _), (1, .int _), (2, .int _)]) [1, 2, 0] rfl ?_
  exact w_X8_begin_23 C  k hV
theorem hd_X8_push : yX8_push.cls = RX8 ∧ yX8_push.cls ≠ "java/lang/invoke/MethodHandle" ∧ yX8_push.cls ≠ "java/lang/invoke/VarHandle" ∧ (parseMethodDescriptor yX8_push.desc).map (fun d => d.parameters.length) = some 3 := by decide +kernel
def V_X8_push (x1 : Int32) (x2 : Int32) (x3 : Int32) (m : MW) (K : Int32 → MW → Prop) : Prop := (vp_in x1 10 ∧ ((¬ (m.2 39 (x1).toNatClampNeg) = 3 → (vp_in x1 10 ∧ (vp_in ((3 * x1) + (m.2 39 (x1).toNatClampNeg)) 30 ∧ ∀ m1 : MW, m1 = (m.1, up2 m.2 40 (((3 * x1) + (m.2 39 (x1).toNatClampNeg))).toNatClampNeg x2) → (vp_in x1 10 ∧ (vp_in ((3 * x1) + (m1.2 39 (x1).toNatClampNeg)) 30 ∧ ∀ m2 : MW, m2 = (m1.1, up2 m1.2 41 (((3 * x1) + (m1.2 39 (x1).toNatClampNeg))).toNatClampNeg x3) → (vp_in x1 10 ∧ (vp_in x1 10 ∧ ∀ m3 : MW, m3 = (m2.1, up2 m2.2 39 (x1).toNatClampNeg ((m2.2 39 (x1).toNatClampNeg) + 1)) → (K 0 m3)))))))) ∧ ((m.2 39 (x1).toNatClampNeg) = 3 → (K 2 m))))
set_option maxHeartbeats 4000000 in
set_option maxRecDepth 100000 in
theorem w_X8_push {l : Launch} {g : GG} {x1 : Int32} {x2 : Int32} {x3 : Int32} {m : MW} {K : Int32 → MW → Prop} (hV : V_X8_push  x1 x2 x3 m K) : Ct l yX8_push cX8_push 4 (some .int) 0 0 [.ref (gad g 22 0), .int x1, .int x2, .int x3] g m (Ei K) := by
  refine ct_intro RX8 (by decide) rfl (Nat.le_of_ble_eq_true rfl) ?_
  intro p e s mi below meth c C
  unfold V_X8_push at hV
  refine kt_aload_n C dX8_push_0 rfl rfl ?_
  refine kt_get (ci := 8) C 9 (by decide) rfl rfl inlX8 (by decide) wd_127 rfl dX8_push_1 ?_
  refine kt_iload_n C dX8_push_4 rfl rfl ?_
  refine kt_iald C (by decide) rfl hV.1 dX8_push_5 ?_
  have hV := hV.2
  refine kt_iconst (v := 3) C dX8_push_6 (by decide) ?_
  refine kt_icmp_ne C 12 dX8_push_7 rfl (fun c7 => ?_) (fun c7 => ?_)
  · have hV := hV.1 c7
    refine kt_aload_n C dX8_push_12 rfl rfl ?_
    refine kt_get (ci := 8) C 10 (by decide) rfl rfl inlX8 (by decide) wd_128 rfl dX8_push_13 ?_
    refine kt_iconst (v := 3) C dX8_push_16 (by decide) ?_
    refine kt_iload_n C dX8_push_17 rfl rfl ?_
    refine kt_imul C dX8_push_18 ?_
    refine kt_aload_n C dX8_push_19 rfl rfl ?_
    refine kt_get (ci := 8) C 9 (by decide) rfl rfl inlX8 (by decide) wd_127 rfl dX8_push_20 ?_
    refine kt_iload_n C dX8_push_23 rfl rfl ?_
    refine kt_iald C (by decide) rfl hV.1 dX8_push_24 ?_
    have hV := hV.2
    refine kt_iadd C dX8_push_25 ?_
    refine kt_iload_n C dX8_push_26 rfl rfl ?_
    refine kt_iast2 C rfl rfl hV.1 (ea_40 _ _ _ _) dX8_push_27 (fun m1 hm1 => ?_)
    have hV := hV.2 m1 hm1
    refine kt_aload_n C dX8_push_28 rfl rfl ?_
    refine kt_get (ci := 8) C 11 (by decide) rfl rfl inlX8 (by decide) wd_129 rfl dX8_push_29 ?_
    refine kt_iconst (v := 3) C dX8_push_32 (by decide) ?_
    refine kt_iload_n C dX8_push_33 rfl rfl ?_
    refine kt_imul C dX8_push_34 ?_
    refine kt_aload_n C dX8_push_35 rfl rfl ?_
    refine kt_get (ci := 8) C 9 (by decide) rfl rfl inlX8 (by decide) wd_127 rfl dX8_push_36 ?_
    refine kt_iload_n C dX8_push_39 rfl rfl ?_
    refine kt_iald C (by decide) rfl hV.1 dX8_push_40 ?_
    have hV := hV.2
    refine kt_iadd C dX8_push_41 ?_
    refine kt_iload_n C dX8_push_42 rfl rfl ?_
    refine kt_iast2 C rfl rfl hV.1 (ea_41 _ _ _ _) dX8_push_43 (fun m2 hm2 => ?_)
    have hV := hV.2 m2 hm2
    refine kt_aload_n C dX8_push_44 rfl rfl ?_
    refine kt_get (ci := 8) C 9 (by decide) rfl rfl inlX8 (by decide) wd_127 rfl dX8_push_45 ?_
    refine kt_iload_n C dX8_push_48 rfl rfl ?_
    refine kt_dup2 C dX8_push_49 rfl rfl ?_
    refine kt_iald C (by decide) rfl hV.1 dX8_push_50 ?_
    have hV := hV.2
    refine kt_iconst (v := 1) C dX8_push_51 (by decide) ?_
    refine kt_iadd C dX8_push_52 ?_
    refine kt_iast2 C rfl rfl hV.1 (ea_39 _ _ _ _) dX8_push_53 (fun m3 hm3 => ?_)
    have hV := hV.2 m3 hm3
    refine kt_iconst (v := 0) C dX8_push_54 (by decide) ?_
    exact kt_iret C ⟨_, rfl, hV⟩ dX8_push_55
  · have hV := hV.2 c7
    refine kt_iconst (v := 2) C dX8_push_10 (by decide) ?_
    exact kt_iret C ⟨_, rfl, hV⟩ dX8_push_11
theorem hd_X8_by : yX8_by.cls = RX8 ∧ yX8_by.cls ≠ "java/lang/invoke/MethodHandle" ∧ yX8_by.cls ≠ "java/lang/invoke/VarHandle" ∧ (parseMethodDescriptor yX8_by.desc).map (fun d => d.parameters.length) = some 4 := by decide +kernel
def V_X8_by (x1 : Int32) (x2 : Int32) (x3 : Int32) (x4 : Int32) (m : MW) (K : Int32 → MW → Prop) : Prop := ((¬ (Int32.toInt64 x4) = 0) ∧ (V_X8_nearest  (((Int32.toInt64 x2) / (Int32.toInt64 x4))) m (fun v2 m1 => ((¬ (Int32.toInt64 x4) = 0) ∧ (V_X8_nearest  (((Int32.toInt64 x3) / (Int32.toInt64 x4))) m1 (fun v4 m3 => ((v4 ≤ v2 → (V_X8_push  (x1) (v4) (v2) m3 (fun v6 m5 => (K v6 m5)))) ∧ (¬ v4 ≤ v2 → (V_X8_push  (x1) (v2) (v4) m3 (fun v8 m7 => (K v8 m7)))))))))))
set_option maxHeartbeats 4000000 in
set_option maxRecDepth 100000 in
theorem w_X8_by {l : Launch} {g : GG} {x1 : Int32} {x2 : Int32} {x3 : Int32} {x4 : Int32} {m : MW} {K : Int32 → MW → Prop} (hV : V_X8_by  x1 x2 x3 x4 m K) : Ct l yX8_by cX8_by 7 (some .int) 1 23 [.ref (gad g 22 0), .int x1, .int x2, .int x3, .int x4] g m (Ei K) := by
  refine ct_intro RX8 (by decide) rfl (Nat.le_of_ble_eq_true rfl) ?_
  intro p e s mi below meth c C
  unfold V_X8_by at hV
  refine kt_iload_n C dX8_by_0 rfl rfl ?_
  refine kt_i2l C dX8_by_1 rfl ?_
  refine kt_iload C dX8_by_2 rfl ?_
  refine kt_i2l C dX8_by_4 rfl ?_
  refine kt_ldiv C dX8_by_5 hV.1 ?_
  have hV := hV.2
  refine kt_callS (n := 1) C (w_X8_nearest  hV) wd_491 wd_492 wd_5 wd_493 hd_X8_nearest rfl ⟨Nat.le_of_ble_eq_true rfl, Nat.le_of_ble_eq_true rfl⟩ ⟨Nat.zero_le _, Nat.zero_le _⟩ rfl (Nat.le_of_ble_eq_true rfl) dX8_by_6 (fun r m1 hE => ?_)
  obtain ⟨v2, rfl, hV⟩ := hE
  refine kt_sti ?_
  refine kt_istore (lv' := [(5, .int _), (0, .ref _), (1, .int _), (2, .int _), (3, .int _), (4, .int _)]) C dX8_by_9 (by decide) rfl ?_
  refine kt_iload_n C dX8_by_11 rfl rfl ?_
  refine kt_i2l C dX8_by_12 rfl ?_
  refine kt_iload C dX8_by_13 rfl ?_
  refine kt_i2l C dX8_by_15 rfl ?_
  refine kt_ldiv C dX8_by_16 hV.1 ?_
  have hV := hV.2
  refine kt_callS (n := 1) C (w_X8_nearest  hV) wd_491 wd_492 wd_5 wd_493 hd_X8_nearest rfl ⟨Nat.le_of_ble_eq_true rfl, Nat.le_of_ble_eq_true rfl⟩ ⟨Nat.zero_le _, Nat.zero_le _⟩ rfl (Nat.le_of_ble_eq_true rfl) dX8_by_17 (fun r m3 hE => ?_)
  obtain ⟨v4, rfl, hV⟩ := hE
  refine kt_sti ?_
  refine kt_istore (lv' := [(6, .int _), (5, .int _), (0, .ref _), (1, .int _), (2, .int _), (3, .int _), (4, .int _)]) C dX8_by_20 (by decide) rfl ?_
  refine kt_iload C dX8_by_22 rfl ?_
  refine kt_iload C dX8_by_24 rfl ?_
  refine kt_icmp_ge C 41 dX8_by_26 rfl (fun c26 => ?_) (fun c26 => ?_)
  · have hV := hV.1 c26
    refine kt_aload_n C dX8_by_41 rfl rfl ?_
    refine kt_iload_n C dX8_by_42 rfl rfl ?_
    refine kt_iload C dX8_by_43 rfl ?_
    refine kt_iload C dX8_by_45 rfl ?_
    refine kt_callV (n := 3) C (w_X8_push  hV) (by decide) rfl rfl wd_483 wd_484 wd_485 wd_5 wd_486 hd_X8_push rfl ⟨Nat.le_of_ble_eq_true rfl, Nat.le_of_ble_eq_true rfl⟩ ⟨Nat.zero_le _, Nat.zero_le _⟩ rfl (Nat.le_of_ble_eq_true rfl) dX8_by_47 (fun r m5 hE => ?_)
    obtain ⟨v6, rfl, hV⟩ := hE
    refine kt_sti ?_
    exact kt_iret C ⟨_, rfl, hV⟩ dX8_by_50
  · have hV := hV.2 c26
    refine kt_aload_n C dX8_by_29 rfl rfl ?_
    refine kt_iload_n C dX8_by_30 rfl rfl ?_
    refine kt_iload C dX8_by_31 rfl ?_
    refine kt_iload C dX8_by_33 rfl ?_
    refine kt_callV (n := 3) C (w_X8_push  hV) (by decide) rfl rfl wd_483 wd_484 wd_485 wd_5 wd_486 hd_X8_push rfl ⟨Nat.le_of_ble_eq_true rfl, Nat.le_of_ble_eq_true rfl⟩ ⟨Nat.zero_le _, Nat.zero_le _⟩ rfl (Nat.le_of_ble_eq_true rfl) dX8_by_35 (fun r m7 hE => ?_)
    obtain ⟨v8, rfl, hV⟩ := hE
    refine kt_sti ?_
    refine kt_goto C 50 dX8_by_38 rfl ?_
    exact kt_iret C ⟨_, rfl, hV⟩ dX8_by_50
theorem hd_X8_both : yX8_both.cls = RX8 ∧ yX8_both.cls ≠ "java/lang/invoke/MethodHandle" ∧ yX8_both.cls ≠ "java/lang/invoke/VarHandle" ∧ (parseMethodDescriptor yX8_both.desc).map (fun d => d.parameters.length) = some 4 := by decide +kernel
def V_X8_both (x1 : Int32) (x2 : Int32) (x3 : Int32) (x4 : Int32) (m : MW) (K : Int32 → MW → Prop) : Prop := (vp_in x1 10 ∧ (vp_in x1 10 ∧ ∀ m1 : MW, m1 = (m.1, up2 m.2 39 (x1).toNatClampNeg ((m.2 39 (x1).toNatClampNeg) - 1)) → (vp_in x1 10 ∧ (vp_in ((3 * x1) + (m1.2 39 (x1).toNatClampNeg)) 30 ∧ (vp_in x1 10 ∧ (vp_in ((3 * x1) + (m1.2 39 (x1).toNatClampNeg)) 30 ∧ ((((x2 : Int32).toInt < 2 ∨ 4 < (x2 : Int32).toInt) → ((x3 ≤ (m1.2 40 (((3 * x1) + (m1.2 39 (x1).toNatClampNeg))).toNatClampNeg) → (((m1.2 41 (((3 * x1) + (m1.2 39 (x1).toNatClampNeg))).toNatClampNeg) ≤ x4 → (V_X8_push  (x1) (x3) (x4) m1 (fun v3 m2 => (K v3 m2)))) ∧ (¬ (m1.2 41 (((3 * x1) + (m1.2 39 (x1).toNatClampNeg))).toNatClampNeg) ≤ x4 → (V_X8_push  (x1) (x3) ((m1.2 41 (((3 * x1) + (m1.2 39 (x1).toNatClampNeg))).toNatClampNeg)) m1 (fun v5 m4 => (K v5 m4)))))) ∧ (¬ x3 ≤ (m1.2 40 (((3 * x1) + (m1.2 39 (x1).toNatClampNeg))).toNatClampNeg) → (((m1.2 41 (((3 * x1) + (m1.2 39 (x1).toNatClampNeg))).toNatClampNeg) ≤ x4 → (V_X8_push  (x1) ((m1.2 40 (((3 * x1) + (m1.2 39 (x1).toNatClampNeg))).toNatClampNeg)) (x4) m1 (fun v7 m6 => (K v7 m6)))) ∧ (¬ (m1.2 41 (((3 * x1) + (m1.2 39 (x1).toNatClampNeg))).toNatClampNeg) ≤ x4 → (V_X8_push  (x1) ((m1.2 40 (((3 * x1) + (m1.2 39 (x1).toNatClampNeg))).toNatClampNeg)) ((m1.2 41 (((3 * x1) + (m1.2 39 (x1).toNatClampNeg))).toNatClampNeg)) m1 (fun v9 m8 => (K v9 m8)))))))) ∧ ((x2 = 2 → (V_X8_nearest  (((Int32.toInt64 (m1.2 40 (((3 * x1) + (m1.2 39 (x1).toNatClampNeg))).toNatClampNeg)) + (Int32.toInt64 x3))) m1 (fun v11 m10 => (V_X8_nearest  (((Int32.toInt64 (m1.2 41 (((3 * x1) + (m1.2 39 (x1).toNatClampNeg))).toNatClampNeg)) + (Int32.toInt64 x4))) m10 (fun v13 m12 => (V_X8_push  (x1) (v11) (v13) m12 (fun v15 m14 => (K v15 m14)))))))) ∧ ((x2 = 3 → (V_X8_nearest  (((Int32.toInt64 (m1.2 40 (((3 * x1) + (m1.2 39 (x1).toNatClampNeg))).toNatClampNeg)) - (Int32.toInt64 x4))) m1 (fun v17 m16 => (V_X8_nearest  (((Int32.toInt64 (m1.2 41 (((3 * x1) + (m1.2 39 (x1).toNatClampNeg))).toNatClampNeg)) - (Int32.toInt64 x3))) m16 (fun v19 m18 => (V_X8_push  (x1) (v17) (v19) m18 (fun v21 m20 => (K v21 m20)))))))) ∧ (x2 = 4 → (((m1.2 40 (((3 * x1) + (m1.2 39 (x1).toNatClampNeg))).toNatClampNeg) ≤ x3 → ((x4 ≤ (m1.2 41 (((3 * x1) + (m1.2 39 (x1).toNatClampNeg))).toNatClampNeg) → ((x3 ≤ x4 → (V_X8_push  (x1) (x3) (x4) m1 (fun v23 m22 => (K v23 m22)))) ∧ (¬ x3 ≤ x4 → (K 5 m1)))) ∧ (¬ x4 ≤ (m1.2 41 (((3 * x1) + (m1.2 39 (x1).toNatClampNeg))).toNatClampNeg) → ((x3 ≤ (m1.2 41 (((3 * x1) + (m1.2 39 (x1).toNatClampNeg))).toNatClampNeg) → (V_X8_push  (x1) (x3) ((m1.2 41 (((3 * x1) + (m1.2 39 (x1).toNatClampNeg))).toNatClampNeg)) m1 (fun v25 m24 => (K v25 m24)))) ∧ (¬ x3 ≤ (m1.2 41 (((3 * x1) + (m1.2 39 (x1).toNatClampNeg))).toNatClampNeg) → (K 5 m1)))))) ∧ (¬ (m1.2 40 (((3 * x1) + (m1.2 39 (x1).toNatClampNeg))).toNatClampNeg) ≤ x3 → ((x4 ≤ (m1.2 41 (((3 * x1) + (m1.2 39 (x1).toNatClampNeg))).toNatClampNeg) → (((m1.2 40 (((3 * x1) + (m1.2 39 (x1).toNatClampNeg))).toNatClampNeg) ≤ x4 → (V_X8_push  (x1) ((m1.2 40 (((3 * x1) + (m1.2 39 (x1).toNatClampNeg))).toNatClampNeg)) (x4) m1 (fun v27 m26 => (K v27 m26)))) ∧ (¬ (m1.2 40 (((3 * x1) + (m1.2 39 (x1).toNatClampNeg))).toNatClampNeg) ≤ x4 → (K 5 m1)))) ∧ (¬ x4 ≤ (m1.2 41 (((3 * x1) + (m1.2 39 (x1).toNatClampNeg))).toNatClampNeg) → (((m1.2 40 (((3 * x1) + (m1.2 39 (x1).toNatClampNeg))).toNatClampNeg) ≤ (m1.2 41 (((3 * x1) + (m1.2 39 (x1).toNatClampNeg))).toNatClampNeg) → (V_X8_push  (x1) ((m1.2 40 (((3 * x1) + (m1.2 39 (x1).toNatClampNeg))).toNatClampNeg)) ((m1.2 41 (((3 * x1) + (m1.2 39 (x1).toNatClampNeg))).toNatClampNeg)) m1 (fun v29 m28 => (K v29 m28)))) ∧ (¬ (m1.2 40 (((3 * x1) + (m1.2 39 (x1).toNatClampNeg))).toNatClampNeg) ≤ (m1.2 41 (((3 * x1) + (m1.2 39 (x1).toNatClampNeg))).toNatClampNeg) → (K 5 m1)))))))))))))))))
set_option maxHeartbeats 4000000 in
set_option maxRecDepth 100000 in
theorem w_X8_both {l : Launch} {g : GG} {x1 : Int32} {x2 : Int32} {x3 : Int32} {x4 : Int32} {m : MW} {K : Int32 → MW → Prop} (hV : V_X8_both  x1 x2 x3 x4 m K) : Ct l yX8_both cX8_both 9 (some .int) 1 23 [.ref (gad g 22 0), .int x1, .int x2, .int x3, .int x4] g m (Ei K) := by
  refine ct_intro RX8 (by decide) rfl (Nat.le_of_ble_eq_true rfl) ?_
  intro p e s mi below meth c C
  unfold V_X8_both at hV
  refine kt_aload_n C dX8_both_0 rfl rfl ?_
  refine kt_get (ci := 8) C 9 (by decide) rfl rfl inlX8 (by decide) wd_127 rfl dX8_both_1 ?_
  refine kt_iload_n C dX8_both_4 rfl rfl ?_
  refine kt_dup2 C dX8_both_5 rfl rfl ?_
  refine kt_iald C (by decide) rfl hV.1 dX8_both_6 ?_
  have hV := hV.2
  refine kt_iconst (v := 1) C dX8_both_7 (by decide) ?_
  refine kt_isub C dX8_both_8 ?_
  refine kt_iast2 C rfl rfl hV.1 (ea_39 _ _ _ _) dX8_both_9 (fun m1 hm1 => ?_)
  have hV := hV.2 m1 hm1
  refine kt_aload_n C dX8_both_10 rfl rfl ?_
  refine kt_get (ci := 8) C 10 (by decide) rfl rfl inlX8 (by decide) wd_128 rfl dX8_both_11 ?_
  refine kt_iconst (v := 3) C dX8_both_14 (by decide) ?_
  refine kt_iload_n C dX8_both_15 rfl rfl ?_
  refine kt_imul C dX8_both_16 ?_
  refine kt_aload_n C dX8_both_17 rfl rfl ?_
  refine kt_get (ci := 8) C 9 (by decide) rfl rfl inlX8 (by decide) wd_127 rfl dX8_both_18 ?_
  refine kt_iload_n C dX8_both_21 rfl rfl ?_
  refine kt_iald C (by decide) rfl hV.1 dX8_both_22 ?_
  have hV := hV.2
  refine kt_iadd C dX8_both_23 ?_
  refine kt_iald C (by decide) rfl hV.1 dX8_both_24 ?_
  have hV := hV.2
  refine kt_istore (lv' := [(5, .int _), (0, .ref _), (1, .int _), (2, .int _), (3, .int _), (4, .int _)]) C dX8_both_25 (by decide) rfl ?_
  refine kt_aload_n C dX8_both_27 rfl rfl ?_
  refine kt_get (ci := 8) C 11 (by decide) rfl rfl inlX8 (by decide) wd_129 rfl dX8_both_28 ?_
  refine kt_iconst (v := 3) C dX8_both_31 (by decide) ?_
  refine kt_iload_n C dX8_both_32 rfl rfl ?_
  refine kt_imul C dX8_both_33 ?_
  refine kt_aload_n C dX8_both_34 rfl rfl ?_
  refine kt_get (ci := 8) C 9 (by decide) rfl rfl inlX8 (by decide) wd_127 rfl dX8_both_35 ?_
  refine kt_iload_n C dX8_both_38 rfl rfl ?_
  refine kt_iald C (by decide) rfl hV.1 dX8_both_39 ?_
  have hV := hV.2
  refine kt_iadd C dX8_both_40 ?_
  refine kt_iald C (by decide) rfl hV.1 dX8_both_41 ?_
  have hV := hV.2
  refine kt_istore (lv' := [(6, .int _), (5, .int _), (0, .ref _), (1, .int _), (2, .int _), (3, .int _), (4, .int _)]) C dX8_both_42 (by decide) rfl ?_
  refine kt_iload_n C dX8_both_44 rfl rfl ?_
  by_cases c45 : ((x2 : Int32).toInt < 2 ∨ 4 < (x2 : Int32).toInt)
  · have hV := hV.1 c45
    refine kt_tableOut C 173 dX8_both_45 c45 rfl ?_
    refine kt_aload_n C dX8_both_173 rfl rfl ?_
    refine kt_iload_n C dX8_both_174 rfl rfl ?_
    refine kt_iload C dX8_both_175 rfl ?_
    refine kt_iload_n C dX8_both_177 rfl rfl ?_
    refine kt_icmp_ge C 186 dX8_both_178 rfl (fun c178 => ?_) (fun c178 => ?_)
    · have hV := hV.1 c178
      refine kt_iload_n C dX8_both_186 rfl rfl ?_
      refine kt_iload C dX8_both_187 rfl ?_
      refine kt_iload C dX8_both_189 rfl ?_
      refine kt_icmp_le C 199 dX8_both_191 rfl (fun c191 => ?_) (fun c191 => ?_)
      · have hV := hV.1 c191
        refine kt_iload C dX8_both_199 rfl ?_
        refine kt_callV (n := 3) C (w_X8_push  hV) (by decide) rfl rfl wd_483 wd_484 wd_485 wd_5 wd_486 hd_X8_push rfl ⟨Nat.le_of_ble_eq_true rfl, Nat.le_of_ble_eq_true rfl⟩ ⟨Nat.zero_le _, Nat.zero_le _⟩ rfl (Nat.le_of_ble_eq_true rfl) dX8_both_201 (fun r m2 hE => ?_)
        obtain ⟨v3, rfl, hV⟩ := hE
        refine kt_sti ?_
        exact kt_iret C ⟨_, rfl, hV⟩ dX8_both_204
      · have hV := hV.2 c191
        refine kt_iload C dX8_both_194 rfl ?_
        refine kt_goto C 201 dX8_both_196 rfl ?_
        refine kt_callV (n := 3) C (w_X8_push  hV) (by decide) rfl rfl wd_483 wd_484 wd_485 wd_5 wd_486 hd_X8_push rfl ⟨Nat.le_of_ble_eq_true rfl, Nat.le_of_ble_eq_true rfl⟩ ⟨Nat.zero_le _, Nat.zero_le _⟩ rfl (Nat.le_of_ble_eq_true rfl) dX8_both_201 (fun r m4 hE => ?_)
        obtain ⟨v5, rfl, hV⟩ := hE
        refine kt_sti ?_
        exact kt_iret C ⟨_, rfl, hV⟩ dX8_both_204
    · have hV := hV.2 c178
      refine kt_iload C dX8_both_181 rfl ?_
      refine kt_goto C 187 dX8_both_183 rfl ?_
      refine kt_iload C dX8_both_187 rfl ?_
      refine kt_iload C dX8_both_189 rfl ?_
      refine kt_icmp_le C 199 dX8_both_191 rfl (fun c191 => ?_) (fun c191 => ?_)
      · have hV := hV.1 c191
        refine kt_iload C dX8_both_199 rfl ?_
        refine kt_callV (n := 3) C (w_X8_push  hV) (by decide) rfl rfl wd_483 wd_484 wd_485 wd_5 wd_486 hd_X8_push rfl ⟨Nat.le_of_ble_eq_true rfl, Nat.le_of_ble_eq_true rfl⟩ ⟨Nat.zero_le _, Nat.zero_le _⟩ rfl (Nat.le_of_ble_eq_true rfl) dX8_both_201 (fun r m6 hE => ?_)
        obtain ⟨v7, rfl, hV⟩ := hE
        refine kt_sti ?_
        exact kt_iret C ⟨_, rfl, hV⟩ dX8_both_204
      · have hV := hV.2 c191
        refine kt_iload C dX8_both_194 rfl ?_
        refine kt_goto C 201 dX8_both_196 rfl ?_
        refine kt_callV (n := 3) C (w_X8_push  hV) (by decide) rfl rfl wd_483 wd_484 wd_485 wd_5 wd_486 hd_X8_push rfl ⟨Nat.le_of_ble_eq_true rfl, Nat.le_of_ble_eq_true rfl⟩ ⟨Nat.zero_le _, Nat.zero_le _⟩ rfl (Nat.le_of_ble_eq_true rfl) dX8_both_201 (fun r m8 hE => ?_)
        obtain ⟨v9, rfl, hV⟩ := hE
        refine kt_sti ?_
        exact kt_iret C ⟨_, rfl, hV⟩ dX8_both_204
  · have hV := hV.2
    have c45a := fun h => c45 (Or.inl h)
    have c45b := fun h => c45 (Or.inr h)
    have c45c := sw_2_4 c45a c45b
    rcases c45c with c45d | c45d | c45d
    · have hV := hV.1 c45d
      refine kt_tableIn C 72 dX8_both_45 c45a c45b (by rw [c45d]; rfl) rfl ?_
      refine kt_aload_n C dX8_both_72 rfl rfl ?_
      refine kt_iload_n C dX8_both_73 rfl rfl ?_
      refine kt_iload C dX8_both_74 rfl ?_
      refine kt_i2l C dX8_both_76 rfl ?_
      refine kt_iload_n C dX8_both_77 rfl rfl ?_
      refine kt_i2l C dX8_both_78 rfl ?_
      refine kt_ladd C dX8_both_79 ?_
      refine kt_callS (n := 1) C (w_X8_nearest  hV) wd_491 wd_492 wd_5 wd_493 hd_X8_nearest rfl ⟨Nat.le_of_ble_eq_true rfl, Nat.le_of_ble_eq_true rfl⟩ ⟨Nat.zero_le _, Nat.zero_le _⟩ rfl (Nat.le_of_ble_eq_true rfl) dX8_both_80 (fun r m10 hE => ?_)
      obtain ⟨v11, rfl, hV⟩ := hE
      refine kt_sti ?_
      refine kt_iload C dX8_both_83 rfl ?_
      refine kt_i2l C dX8_both_85 rfl ?_
      refine kt_iload C dX8_both_86 rfl ?_
      refine kt_i2l C dX8_both_88 rfl ?_
      refine kt_ladd C dX8_both_89 ?_
      refine kt_callS (n := 1) C (w_X8_nearest  hV) wd_491 wd_492 wd_5 wd_493 hd_X8_nearest rfl ⟨Nat.le_of_ble_eq_true rfl, Nat.le_of_ble_eq_true rfl⟩ ⟨Nat.zero_le _, Nat.zero_le _⟩ rfl (Nat.le_of_ble_eq_true rfl) dX8_both_90 (fun r m12 hE => ?_)
      obtain ⟨v13, rfl, hV⟩ := hE
      refine kt_sti ?_
      refine kt_callV (n := 3) C (w_X8_push  hV) (by decide) rfl rfl wd_483 wd_484 wd_485 wd_5 wd_486 hd_X8_push rfl ⟨Nat.le_of_ble_eq_true rfl, Nat.le_of_ble_eq_true rfl⟩ ⟨Nat.zero_le _, Nat.zero_le _⟩ rfl (Nat.le_of_ble_eq_true rfl) dX8_both_93 (fun r m14 hE => ?_)
      obtain ⟨v15, rfl, hV⟩ := hE
      refine kt_sti ?_
      exact kt_iret C ⟨_, rfl, hV⟩ dX8_both_96
    · have hV := hV.2.1 c45d
      refine kt_tableIn C 97 dX8_both_45 c45a c45b (by rw [c45d]; rfl) rfl ?_
      refine kt_aload_n C dX8_both_97 rfl rfl ?_
      refine kt_iload_n C dX8_both_98 rfl rfl ?_
      refine kt_iload C dX8_both_99 rfl ?_
      refine kt_i2l C dX8_both_101 rfl ?_
      refine kt_iload C dX8_both_102 rfl ?_
      refine kt_i2l C dX8_both_104 rfl ?_
      refine kt_lsub C dX8_both_105 ?_
      refine kt_callS (n := 1) C (w_X8_nearest  hV) wd_491 wd_492 wd_5 wd_493 hd_X8_nearest rfl ⟨Nat.le_of_ble_eq_true rfl, Nat.le_of_ble_eq_true rfl⟩ ⟨Nat.zero_le _, Nat.zero_le _⟩ rfl (Nat.le_of_ble_eq_true rfl) dX8_both_106 (fun r m16 hE => ?_)
      obtain ⟨v17, rfl, hV⟩ := hE
      refine kt_sti ?_
      refine kt_iload C dX8_both_109 rfl ?_
      refine kt_i2l C dX8_both_111 rfl ?_
      refine kt_iload_n C dX8_both_112 rfl rfl ?_
      refine kt_i2l C dX8_both_113 rfl ?_
      refine kt_lsub C dX8_both_114 ?_
      refine kt_callS (n := 1) C (w_X8_nearest  hV) wd_491 wd_492 wd_5 wd_493 hd_X8_nearest rfl ⟨Nat.le_of_ble_eq_true rfl, Nat.le_of_ble_eq_true rfl⟩ ⟨Nat.zero_le _, Nat.zero_le _⟩ rfl (Nat.le_of_ble_eq_true rfl) dX8_both_115 (fun r m18 hE => ?_)
      obtain ⟨v19, rfl, hV⟩ := hE
      refine kt_sti ?_
      refine kt_callV (n := 3) C (w_X8_push  hV) (by decide) rfl rfl wd_483 wd_484 wd_485 wd_5 wd_486 hd_X8_push rfl ⟨Nat.le_of_ble_eq_true rfl, Nat.le_of_ble_eq_true rfl⟩ ⟨Nat.zero_le _, Nat.zero_le _⟩ rfl (Nat.le_of_ble_eq_true rfl) dX8_both_118 (fun r m20 hE => ?_)
      obtain ⟨v21, rfl, hV⟩ := hE
      refine kt_sti ?_
      exact kt_iret C ⟨_, rfl, hV⟩ dX8_both_121
    · have hV := hV.2.2 c45d
      refine kt_tableIn C 122 dX8_both_45 c45a c45b (by rw [c45d]; rfl) rfl ?_
      refine kt_iload C dX8_both_122 rfl ?_
      refine kt_iload_n C dX8_both_124 rfl rfl ?_
      refine kt_icmp_le C 133 dX8_both_125 rfl (fun c125 => ?_) (fun c125 => ?_)
      · have hV := hV.1 c125
        refine kt_iload_n C dX8_both_133 rfl rfl ?_
        refine kt_istore (lv' := [(7, .int _), (6, .int _), (5, .int _), (0, .ref _), (1, .int _), (2, .int _), (3, .int _), (4, .int _)]) C dX8_both_134 (by decide) rfl ?_
        refine kt_iload C dX8_both_136 rfl ?_
        refine kt_iload C dX8_both_138 rfl ?_
        refine kt_icmp_ge C 148 dX8_both_140 rfl (fun c140 => ?_) (fun c140 => ?_)
        · have hV := hV.1 c140
          refine kt_iload C dX8_both_148 rfl ?_
          refine kt_istore (lv' := [(8, .int _), (7, .int _), (6, .int _), (5, .int _), (0, .ref _), (1, .int _), (2, .int _), (3, .int _), (4, .int _)]) C dX8_both_150 (by decide) rfl ?_
          refine kt_iload C dX8_both_152 rfl ?_
          refine kt_iload C dX8_both_154 rfl ?_
          refine kt_icmp_le C 163 dX8_both_156 rfl (fun c156 => ?_) (fun c156 => ?_)
          · have hV := hV.1 c156
            refine kt_aload_n C dX8_both_163 rfl rfl ?_
            refine kt_iload_n C dX8_both_164 rfl rfl ?_
            refine kt_iload C dX8_both_165 rfl ?_
            refine kt_iload C dX8_both_167 rfl ?_
            refine kt_callV (n := 3) C (w_X8_push  hV) (by decide) rfl rfl wd_483 wd_484 wd_485 wd_5 wd_486 hd_X8_push rfl ⟨Nat.le_of_ble_eq_true rfl, Nat.le_of_ble_eq_true rfl⟩ ⟨Nat.zero_le _, Nat.zero_le _⟩ rfl (Nat.le_of_ble_eq_true rfl) dX8_both_169 (fun r m22 hE => ?_)
            obtain ⟨v23, rfl, hV⟩ := hE
            refine kt_sti ?_
            exact kt_iret C ⟨_, rfl, hV⟩ dX8_both_172
          · have hV := hV.2 c156
            refine kt_iconst (v := 5) C dX8_both_159 (by decide) ?_
            refine kt_goto C 172 dX8_both_160 rfl ?_
            exact kt_iret C ⟨_, rfl, hV⟩ dX8_both_172
        · have hV := hV.2 c140
          refine kt_iload C dX8_both_143 rfl ?_
          refine kt_goto C 150 dX8_both_145 rfl ?_
          refine kt_istore (lv' := [(8, .int _), (7, .int _), (6, .int _), (5, .int _), (0, .ref _), (1, .int _), (2, .int _), (3, .int _), (4, .int _)]) C dX8_both_150 (by decide) rfl ?_
          refine kt_iload C dX8_both_152 rfl ?_
          refine kt_iload C dX8_both_154 rfl ?_
          refine kt_icmp_le C 163 dX8_both_156 rfl (fun c156 => ?_) (fun c156 => ?_)
          · have hV := hV.1 c156
            refine kt_aload_n C dX8_both_163 rfl rfl ?_
            refine kt_iload_n C dX8_both_164 rfl rfl ?_
            refine kt_iload C dX8_both_165 rfl ?_
            refine kt_iload C dX8_both_167 rfl ?_
            refine kt_callV (n := 3) C (w_X8_push  hV) (by decide) rfl rfl wd_483 wd_484 wd_485 wd_5 wd_486 hd_X8_push rfl ⟨Nat.le_of_ble_eq_true rfl, Nat.le_of_ble_eq_true rfl⟩ ⟨Nat.zero_le _, Nat.zero_le _⟩ rfl (Nat.le_of_ble_eq_true rfl) dX8_both_169 (fun r m24 hE => ?_)
            obtain ⟨v25, rfl, hV⟩ := hE
            refine kt_sti ?_
            exact kt_iret C ⟨_, rfl, hV⟩ dX8_both_172
          · have hV := hV.2 c156
            refine kt_iconst (v := 5) C dX8_both_159 (by decide) ?_
            refine kt_goto C 172 dX8_both_160 rfl ?_
            exact kt_iret C ⟨_, rfl, hV⟩ dX8_both_172
      · have hV := hV.2 c125
        refine kt_iload C dX8_both_128 rfl ?_
        refine kt_goto C 134 dX8_both_130 rfl ?_
        refine kt_istore (lv' := [(7, .int _), (6, .int _), (5, .int _), (0, .ref _), (1, .int _), (2, .int _), (3, .int _), (4, .int _)]) C dX8_both_134 (by decide) rfl ?_
        refine kt_iload C dX8_both_136 rfl ?_
        refine kt_iload C dX8_both_138 rfl ?_
        refine kt_icmp_ge C 148 dX8_both_140 rfl (fun c140 => ?_) (fun c140 => ?_)
        · have hV := hV.1 c140
          refine kt_iload C dX8_both_148 rfl ?_
          refine kt_istore (lv' := [(8, .int _), (7, .int _), (6, .int _), (5, .int _), (0, .ref _), (1, .int _), (2, .int _), (3, .int _), (4, .int _)]) C dX8_both_150 (by decide) rfl ?_
          refine kt_iload C dX8_both_152 rfl ?_
          refine kt_iload C dX8_both_154 rfl ?_
          refine kt_icmp_le C 163 dX8_both_156 rfl (fun c156 => ?_) (fun c156 => ?_)
          · have hV := hV.1 c156
            refine kt_aload_n C dX8_both_163 rfl rfl ?_
            refine kt_iload_n C dX8_both_164 rfl rfl ?_
            refine kt_iload C dX8_both_165 rfl ?_
            refine kt_iload C dX8_both_167 rfl ?_
            refine kt_callV (n := 3) C (w_X8_push  hV) (by decide) rfl rfl wd_483 wd_484 wd_485 wd_5 wd_486 hd_X8_push rfl ⟨Nat.le_of_ble_eq_true rfl, Nat.le_of_ble_eq_true rfl⟩ ⟨Nat.zero_le _, Nat.zero_le _⟩ rfl (Nat.le_of_ble_eq_true rfl) dX8_both_169 (fun r m26 hE => ?_)
            obtain ⟨v27, rfl, hV⟩ := hE
            refine kt_sti ?_
            exact kt_iret C ⟨_, rfl, hV⟩ dX8_both_172
          · have hV := hV.2 c156
            refine kt_iconst (v := 5) C dX8_both_159 (by decide) ?_
            refine kt_goto C 172 dX8_both_160 rfl ?_
            exact kt_iret C ⟨_, rfl, hV⟩ dX8_both_172
        · have hV := hV.2 c140
          refine kt_iload C dX8_both_143 rfl ?_
          refine kt_goto C 150 dX8_both_145 rfl ?_
          refine kt_istore (lv' := [(8, .int _), (7, .int _), (6, .int _), (5, .int _), (0, .ref _), (1, .int _), (2, .int _), (3, .int _), (4, .int _)]) C dX8_both_150 (by decide) rfl ?_
          refine kt_iload C dX8_both_152 rfl ?_
          refine kt_iload C dX8_both_154 rfl ?_
          refine kt_icmp_le C 163 dX8_both_156 rfl (fun c156 => ?_) (fun c156 => ?_)
          · have hV := hV.1 c156
            refine kt_aload_n C dX8_both_163 rfl rfl ?_
            refine kt_iload_n C dX8_both_164 rfl rfl ?_
            refine kt_iload C dX8_both_165 rfl ?_
            refine kt_iload C dX8_both_167 rfl ?_
            refine kt_callV (n := 3) C (w_X8_push  hV) (by decide) rfl rfl wd_483 wd_484 wd_485 wd_5 wd_486 hd_X8_push rfl ⟨Nat.le_of_ble_eq_true rfl, Nat.le_of_ble_eq_true rfl⟩ ⟨Nat.zero_le _, Nat.zero_le _⟩ rfl (Nat.le_of_ble_eq_true rfl) dX8_both_169 (fun r m28 hE => ?_)
            obtain ⟨v29, rfl, hV⟩ := hE
            refine kt_sti ?_
            exact kt_iret C ⟨_, rfl, hV⟩ dX8_both_172
          · have hV := hV.2 c156
            refine kt_iconst (v := 5) C dX8_both_159 (by decide) ?_
            refine kt_goto C 172 dX8_both_160 rfl ?_
            exact kt_iret C ⟨_, rfl, hV⟩ dX8_both_172
theorem hd_X8_work : yX8_work.cls = RX8 ∧ yX8_work.cls ≠ "java/lang/invoke/MethodHandle" ∧ yX8_work.cls ≠ "java/lang/invoke/VarHandle" ∧ (parseMethodDescriptor yX8_work.desc).map (fun d => d.parameters.length) = some 2 := by decide +kernel
def V_X8_work (x1 : Int32) (x2 : Int32) (m : MW) (K : Int32 → MW → Prop) : Prop := (vp_in ((8 * x1) + x2) 80 ∧ (vp_in ((8 * x1) + x2) 80 ∧ ((¬ (m.2 35 (((8 * x1) + x2)).toNatClampNeg) = 0 → ((¬ (m.2 35 (((8 * x1) + x2)).toNatClampNeg) = 1 → ((¬ (m.2 35 (((8 * x1) + x2)).toNatClampNeg) = 9 → (vp_in x1 10 ∧ ((¬ (m.2 39 (x1).toNatClampNeg) = 0 → (vp_in x1 10 ∧ (vp_in (((3 * x1) + (m.2 39 (x1).toNatClampNeg)) - 1) 30 ∧ (vp_in (((3 * x1) + (m.2 39 (x1).toNatClampNeg)) - 1) 30 ∧ ((¬ (m.2 35 (((8 * x1) + x2)).toNatClampNeg) = 7 → (vp_in x1 10 ∧ (vp_in x1 10 ∧ ∀ m1 : MW, m1 = (m.1, up2 m.2 39 (x1).toNatClampNeg ((m.2 39 (x1).toNatClampNeg) - 1)) → ((¬ (m.2 35 (((8 * x1) + x2)).toNatClampNeg) = 6 → ((¬ (m.2 35 (((8 * x1) + x2)).toNatClampNeg) = 8 → (vp_in x1 10 ∧ ((¬ (m1.2 39 (x1).toNatClampNeg) = 0 → (V_X8_both  (x1) ((m.2 35 (((8 * x1) + x2)).toNatClampNeg)) ((m.2 40 ((((3 * x1) + (m.2 39 (x1).toNatClampNeg)) - 1)).toNatClampNeg)) ((m.2 41 ((((3 * x1) + (m.2 39 (x1).toNatClampNeg)) - 1)).toNatClampNeg)) m1 (fun v3 m2 => (K v3 m2)))) ∧ ((m1.2 39 (x1).toNatClampNeg) = 0 → (K 2 m1))))) ∧ ((m.2 35 (((8 * x1) + x2)).toNatClampNeg) = 8 → (((m.2 36 (((8 * x1) + x2)).toNatClampNeg) < 0 → (K 2 m1)) ∧ (¬ (m.2 36 (((8 * x1) + x2)).toNatClampNeg) < 0 → (((m.2 36 (((8 * x1) + x2)).toNatClampNeg) ≤ 2 → (vp_in ((3 * x1) + (m.2 36 (((8 * x1) + x2)).toNatClampNeg)) 30 ∧ ∀ m4 : MW, m4 = (m1.1, up2 m1.2 42 (((3 * x1) + (m.2 36 (((8 * x1) + x2)).toNatClampNeg))).toNatClampNeg (m.2 40 ((((3 * x1) + (m.2 39 (x1).toNatClampNeg)) - 1)).toNatClampNeg)) → (vp_in ((3 * x1) + (m.2 36 (((8 * x1) + x2)).toNatClampNeg)) 30 ∧ ∀ m5 : MW, m5 = (m4.1, up2 m4.2 43 (((3 * x1) + (m.2 36 (((8 * x1) + x2)).toNatClampNeg))).toNatClampNeg (m.2 41 ((((3 * x1) + (m.2 39 (x1).toNatClampNeg)) - 1)).toNatClampNeg)) → (K 0 m5)))) ∧ (¬ (m.2 36 (((8 * x1) + x2)).toNatClampNeg) ≤ 2 → (K 2 m1)))))))) ∧ ((m.2 35 (((8 * x1) + x2)).toNatClampNeg) = 6 → ((¬ (m.2 36 (((8 * x1) + x2)).toNatClampNeg) = 0 → (V_X8_by  (x1) ((m.2 40 ((((3 * x1) + (m.2 39 (x1).toNatClampNeg)) - 1)).toNatClampNeg)) ((m.2 41 ((((3 * x1) + (m.2 39 (x1).toNatClampNeg)) - 1)).toNatClampNeg)) ((m.2 36 (((8 * x1) + x2)).toNatClampNeg)) m1 (fun v7 m6 => (K v7 m6)))) ∧ ((m.2 36 (((8 * x1) + x2)).toNatClampNeg) = 0 → (K 3 m1)))))))) ∧ ((m.2 35 (((8 * x1) + x2)).toNatClampNeg) = 7 → ((¬ (m.2 40 ((((3 * x1) + (m.2 39 (x1).toNatClampNeg)) - 1)).toNatClampNeg) = (m.2 41 ((((3 * x1) + (m.2 39 (x1).toNatClampNeg)) - 1)).toNatClampNeg) → (K 4 m)) ∧ ((m.2 40 ((((3 * x1) + (m.2 39 (x1).toNatClampNeg)) - 1)).toNatClampNeg) = (m.2 41 ((((3 * x1) + (m.2 39 (x1).toNatClampNeg)) - 1)).toNatClampNeg) → (K 0 m))))))))) ∧ ((m.2 39 (x1).toNatClampNeg) = 0 → (K 2 m))))) ∧ ((m.2 35 (((8 * x1) + x2)).toNatClampNeg) = 9 → (((m.2 36 (((8 * x1) + x2)).toNatClampNeg) < 0 → (K 2 m)) ∧ (¬ (m.2 36 (((8 * x1) + x2)).toNatClampNeg) < 0 → (((m.2 36 (((8 * x1) + x2)).toNatClampNeg) ≤ 2 → (vp_in ((3 * x1) + (m.2 36 (((8 * x1) + x2)).toNatClampNeg)) 30 ∧ (vp_in ((3 * x1) + (m.2 36 (((8 * x1) + x2)).toNatClampNeg)) 30 ∧ (((m.2 42 (((3 * x1) + (m.2 36 (((8 * x1) + x2)).toNatClampNeg))).toNatClampNeg) ≤ (m.2 43 (((3 * x1) + (m.2 36 (((8 * x1) + x2)).toNatClampNeg))).toNatClampNeg) → (vp_in ((3 * x1) + (m.2 36 (((8 * x1) + x2)).toNatClampNeg)) 30 ∧ (vp_in ((3 * x1) + (m.2 36 (((8 * x1) + x2)).toNatClampNeg)) 30 ∧ (V_X8_push  (x1) ((m.2 42 (((3 * x1) + (m.2 36 (((8 * x1) + x2)).toNatClampNeg))).toNatClampNeg)) ((m.2 43 (((3 * x1) + (m.2 36 (((8 * x1) + x2)).toNatClampNeg))).toNatClampNeg)) m (fun v9 m8 => (K v9 m8)))))) ∧ (¬ (m.2 42 (((3 * x1) + (m.2 36 (((8 * x1) + x2)).toNatClampNeg))).toNatClampNeg) ≤ (m.2 43 (((3 * x1) + (m.2 36 (((8 * x1) + x2)).toNatClampNeg))).toNatClampNeg) → (K 1 m)))))) ∧ (¬ (m.2 36 (((8 * x1) + x2)).toNatClampNeg) ≤ 2 → (K 2 m)))))))) ∧ ((m.2 35 (((8 * x1) + x2)).toNatClampNeg) = 1 → (V_X8_isFact  ((m.2 36 (((8 * x1) + x2)).toNatClampNeg)) m (fun v11 m10 => ((¬ v11 = 0 → (vp_in (m.2 36 (((8 * x1) + x2)).toNatClampNeg) 10 ∧ (vp_in (m.2 36 (((8 * x1) + x2)).toNatClampNeg) 10 ∧ (((m10.2 30 ((m.2 36 (((8 * x1) + x2)).toNatClampNeg)).toNatClampNeg) ≤ (m10.2 31 ((m.2 36 (((8 * x1) + x2)).toNatClampNeg)).toNatClampNeg) → (vp_in (m.2 36 (((8 * x1) + x2)).toNatClampNeg) 10 ∧ (vp_in (m.2 36 (((8 * x1) + x2)).toNatClampNeg) 10 ∧ (V_X8_push  (x1) ((m10.2 30 ((m.2 36 (((8 * x1) + x2)).toNatClampNeg)).toNatClampNeg)) ((m10.2 31 ((m.2 36 (((8 * x1) + x2)).toNatClampNeg)).toNatClampNeg)) m10 (fun v13 m12 => (K v13 m12)))))) ∧ (¬ (m10.2 30 ((m.2 36 (((8 * x1) + x2)).toNatClampNeg)).toNatClampNeg) ≤ (m10.2 31 ((m.2 36 (((8 * x1) + x2)).toNatClampNeg)).toNatClampNeg) → (K 1 m10)))))) ∧ (v11 = 0 → (K 2 m10)))))))) ∧ ((m.2 35 (((8 * x1) + x2)).toNatClampNeg) = 0 → (vp_in ((8 * x1) + x2) 80 ∧ (((m.2 36 (((8 * x1) + x2)).toNatClampNeg) ≤ (m.2 37 (((8 * x1) + x2)).toNatClampNeg) → (vp_in ((8 * x1) + x2) 80 ∧ (V_X8_push  (x1) ((m.2 36 (((8 * x1) + x2)).toNatClampNeg)) ((m.2 37 (((8 * x1) + x2)).toNatClampNeg)) m (fun v15 m14 => (K v15 m14))))) ∧ (¬ (m.2 36 (((8 * x1) + x2)).toNatClampNeg) ≤ (m.2 37 (((8 * x1) + x2)).toNatClampNeg) → (K 5 m))))))))
set_option maxHeartbeats 4000000 in
set_option maxRecDepth 100000 in
theorem w_X8_work {l : Launch} {g : GG} {x1 : Int32} {x2 : Int32} {m : MW} {K : Int32 → MW → Prop} (hV : V_X8_work  x1 x2 m K) : Ct l yX8_work cX8_work 8 (some .int) 2 51 [.ref (gad g 22 0), .int x1, .int x2] g m (Ei K) := by
  refine ct_intro RX8 (by decide) rfl (Nat.le_of_ble_eq_true rfl) ?_
  intro p e s mi below meth c C
  unfold V_X8_work at hV
  refine kt_aload_n C dX8_work_0 rfl rfl ?_
  refine kt_get (ci := 8) C 5 (by decide) rfl rfl inlX8 (by decide) wd_123 rfl dX8_work_1 ?_
  refine kt_bipush (v := 8) C dX8_work_4 (by decide) ?_
  refine kt_iload_n C dX8_work_6 rfl rfl ?_
  refine kt_imul C dX8_work_7 ?_
  refine kt_iload_n C dX8_work_8 rfl rfl ?_
  refine kt_iadd C dX8_work_9 ?_
  refine kt_iald C (by decide) rfl hV.1 dX8_work_10 ?_
  have hV := hV.2
  refine kt_istore_n (lv' := [(3, .int _), (0, .ref _), (1, .int _), (2, .int _)]) C dX8_work_11 rfl (by decide) rfl ?_
  refine kt_aload_n C dX8_work_12 rfl rfl ?_
  refine kt_get (ci := 8) C 6 (by decide) rfl rfl inlX8 (by decide) wd_124 rfl dX8_work_13 ?_
  refine kt_bipush (v := 8) C dX8_work_16 (by decide) ?_
  refine kt_iload_n C dX8_work_18 rfl rfl ?_
  refine kt_imul C dX8_work_19 ?_
  refine kt_iload_n C dX8_work_20 rfl rfl ?_
  refine kt_iadd C dX8_work_21 ?_
  refine kt_iald C (by decide) rfl hV.1 dX8_work_22 ?_
  have hV := hV.2
  refine kt_istore (lv' := [(4, .int _), (3, .int _), (0, .ref _), (1, .int _), (2, .int _)]) C dX8_work_23 (by decide) rfl ?_
  refine kt_iload_n C dX8_work_25 rfl rfl ?_
  refine kt_if_ne C 68 dX8_work_26 rfl (fun c26 => ?_) (fun c26 => ?_)
  · have hV := hV.1 c26
    refine kt_iload_n C dX8_work_68 rfl rfl ?_
    refine kt_iconst (v := 1) C dX8_work_69 (by decide) ?_
    refine kt_icmp_ne C 126 dX8_work_70 rfl (fun c70 => ?_) (fun c70 => ?_)
    · have hV := hV.1 c70
      refine kt_iload_n C dX8_work_126 rfl rfl ?_
      refine kt_bipush (v := 9) C dX8_work_127 (by decide) ?_
      refine kt_icmp_ne C 202 dX8_work_129 rfl (fun c129 => ?_) (fun c129 => ?_)
      · have hV := hV.1 c129
        refine kt_aload_n C dX8_work_202 rfl rfl ?_
        refine kt_get (ci := 8) C 9 (by decide) rfl rfl inlX8 (by decide) wd_127 rfl dX8_work_203 ?_
        refine kt_iload_n C dX8_work_206 rfl rfl ?_
        refine kt_iald C (by decide) rfl hV.1 dX8_work_207 ?_
        have hV := hV.2
        refine kt_if_ne C 213 dX8_work_208 rfl (fun c208 => ?_) (fun c208 => ?_)
        · have hV := hV.1 c208
          refine kt_iconst (v := 3) C dX8_work_213 (by decide) ?_
          refine kt_iload_n C dX8_work_214 rfl rfl ?_
          refine kt_imul C dX8_work_215 ?_
          refine kt_aload_n C dX8_work_216 rfl rfl ?_
          refine kt_get (ci := 8) C 9 (by decide) rfl rfl inlX8 (by decide) wd_127 rfl dX8_work_217 ?_
          refine kt_iload_n C dX8_work_220 rfl rfl ?_
          refine kt_iald C (by decide) rfl hV.1 dX8_work_221 ?_
          have hV := hV.2
          refine kt_iadd C dX8_work_222 ?_
          refine kt_iconst (v := 1) C dX8_work_223 (by decide) ?_
          refine kt_isub C dX8_work_224 ?_
          refine kt_istore (lv' := [(5, .int _), (4, .int _), (3, .int _), (0, .ref _), (1, .int _), (2, .int _)]) C dX8_work_225 (by decide) rfl ?_
          refine kt_aload_n C dX8_work_227 rfl rfl ?_
          refine kt_get (ci := 8) C 10 (by decide) rfl rfl inlX8 (by decide) wd_128 rfl dX8_work_228 ?_
          refine kt_iload C dX8_work_231 rfl ?_
          refine kt_iald C (by decide) rfl hV.1 dX8_work_233 ?_
          have hV := hV.2
          refine kt_istore (lv' := [(6, .int _), (5, .int _), (4, .int _), (3, .int _), (0, .ref _), (1, .int _), (2, .int _)]) C dX8_work_234 (by decide) rfl ?_
          refine kt_aload_n C dX8_work_236 rfl rfl ?_
          refine kt_get (ci := 8) C 11 (by decide) rfl rfl inlX8 (by decide) wd_129 rfl dX8_work_237 ?_
          refine kt_iload C dX8_work_240 rfl ?_
          refine kt_iald C (by decide) rfl hV.1 dX8_work_242 ?_
          have hV := hV.2
          refine kt_istore (lv' := [(7, .int _), (6, .int _), (5, .int _), (4, .int _), (3, .int _), (0, .ref _), (1, .int _), (2, .int _)]) C dX8_work_243 (by decide) rfl ?_
          refine kt_iload_n C dX8_work_245 rfl rfl ?_
          refine kt_bipush (v := 7) C dX8_work_246 (by decide) ?_
          refine kt_icmp_ne C 264 dX8_work_248 rfl (fun c248 => ?_) (fun c248 => ?_)
          · have hV := hV.1 c248
            refine kt_aload_n C dX8_work_264 rfl rfl ?_
            refine kt_get (ci := 8) C 9 (by decide) rfl rfl inlX8 (by decide) wd_127 rfl dX8_work_265 ?_
            refine kt_iload_n C dX8_work_268 rfl rfl ?_
            refine kt_dup2 C dX8_work_269 rfl rfl ?_
            refine kt_iald C (by decide) rfl hV.1 dX8_work_270 ?_
            have hV := hV.2
            refine kt_iconst (v := 1) C dX8_work_271 (by decide) ?_
            refine kt_isub C dX8_work_272 ?_
            refine kt_iast2 C rfl rfl hV.1 (ea_39 _ _ _ _) dX8_work_273 (fun m1 hm1 => ?_)
            have hV := hV.2 m1 hm1
            refine kt_iload_n C dX8_work_274 rfl rfl ?_
            refine kt_bipush (v := 6) C dX8_work_275 (by decide) ?_
            refine kt_icmp_ne C 301 dX8_work_277 rfl (fun c277 => ?_) (fun c277 => ?_)
            · have hV := hV.1 c277
              refine kt_iload_n C dX8_work_301 rfl rfl ?_
              refine kt_bipush (v := 8) C dX8_work_302 (by decide) ?_
              refine kt_icmp_ne C 348 dX8_work_304 rfl (fun c304 => ?_) (fun c304 => ?_)
              · have hV := hV.1 c304
                refine kt_aload_n C dX8_work_348 rfl rfl ?_
                refine kt_get (ci := 8) C 9 (by decide) rfl rfl inlX8 (by decide) wd_127 rfl dX8_work_349 ?_
                refine kt_iload_n C dX8_work_352 rfl rfl ?_
                refine kt_iald C (by decide) rfl hV.1 dX8_work_353 ?_
                have hV := hV.2
                refine kt_if_ne C 361 dX8_work_354 rfl (fun c354 => ?_) (fun c354 => ?_)
                · have hV := hV.1 c354
                  refine kt_aload_n C dX8_work_361 rfl rfl ?_
                  refine kt_iload_n C dX8_work_362 rfl rfl ?_
                  refine kt_iload_n C dX8_work_363 rfl rfl ?_
                  refine kt_iload C dX8_work_364 rfl ?_
                  refine kt_iload C dX8_work_366 rfl ?_
                  refine kt_callV (n := 4) C (w_X8_both  hV) (by decide) rfl rfl wd_496 wd_497 wd_498 wd_5 wd_499 hd_X8_both rfl ⟨Nat.le_of_ble_eq_true rfl, Nat.le_of_ble_eq_true rfl⟩ ⟨Nat.zero_le _, Nat.zero_le _⟩ rfl (Nat.le_of_ble_eq_true rfl) dX8_work_368 (fun r m2 hE => ?_)
                  obtain ⟨v3, rfl, hV⟩ := hE
                  refine kt_sti ?_
                  exact kt_iret C ⟨_, rfl, hV⟩ dX8_work_371
                · have hV := hV.2 c354
                  refine kt_iconst (v := 2) C dX8_work_357 (by decide) ?_
                  refine kt_goto C 371 dX8_work_358 rfl ?_
                  exact kt_iret C ⟨_, rfl, hV⟩ dX8_work_371
              · have hV := hV.2 c304
                refine kt_iload C dX8_work_307 rfl ?_
                refine kt_if_lt C 318 dX8_work_309 rfl (fun c309 => ?_) (fun c309 => ?_)
                · have hV := hV.1 c309
                  refine kt_iconst (v := 2) C dX8_work_318 (by decide) ?_
                  exact kt_iret C ⟨_, rfl, hV⟩ dX8_work_319
                · have hV := hV.2 c309
                  refine kt_iload C dX8_work_312 rfl ?_
                  refine kt_iconst (v := 2) C dX8_work_314 (by decide) ?_
                  refine kt_icmp_le C 320 dX8_work_315 rfl (fun c315 => ?_) (fun c315 => ?_)
                  · have hV := hV.1 c315
                    refine kt_aload_n C dX8_work_320 rfl rfl ?_
                    refine kt_get (ci := 8) C 12 (by decide) rfl rfl inlX8 (by decide) wd_130 rfl dX8_work_321 ?_
                    refine kt_iconst (v := 3) C dX8_work_324 (by decide) ?_
                    refine kt_iload_n C dX8_work_325 rfl rfl ?_
                    refine kt_imul C dX8_work_326 ?_
                    refine kt_iload C dX8_work_327 rfl ?_
                    refine kt_iadd C dX8_work_329 ?_
                    refine kt_iload C dX8_work_330 rfl ?_
                    refine kt_iast2 C rfl rfl hV.1 (ea_42 _ _ _ _) dX8_work_332 (fun m4 hm4 => ?_)
                    have hV := hV.2 m4 hm4
                    refine kt_aload_n C dX8_work_333 rfl rfl ?_
                    refine kt_get (ci := 8) C 13 (by decide) rfl rfl inlX8 (by decide) wd_131 rfl dX8_work_334 ?_
                    refine kt_iconst (v := 3) C dX8_work_337 (by decide) ?_
                    refine kt_iload_n C dX8_work_338 rfl rfl ?_
                    refine kt_imul C dX8_work_339 ?_
                    refine kt_iload C dX8_work_340 rfl ?_
                    refine kt_iadd C dX8_work_342 ?_
                    refine kt_iload C dX8_work_343 rfl ?_
                    refine kt_iast2 C rfl rfl hV.1 (ea_43 _ _ _ _) dX8_work_345 (fun m5 hm5 => ?_)
                    have hV := hV.2 m5 hm5
                    refine kt_iconst (v := 0) C dX8_work_346 (by decide) ?_
                    exact kt_iret C ⟨_, rfl, hV⟩ dX8_work_347
                  · have hV := hV.2 c315
                    refine kt_iconst (v := 2) C dX8_work_318 (by decide) ?_
                    exact kt_iret C ⟨_, rfl, hV⟩ dX8_work_319
            · have hV := hV.2 c277
              refine kt_iload C dX8_work_280 rfl ?_
              refine kt_if_ne C 289 dX8_work_282 rfl (fun c282 => ?_) (fun c282 => ?_)
              · have hV := hV.1 c282
                refine kt_aload_n C dX8_work_289 rfl rfl ?_
                refine kt_iload_n C dX8_work_290 rfl rfl ?_
                refine kt_iload C dX8_work_291 rfl ?_
                refine kt_iload C dX8_work_293 rfl ?_
                refine kt_iload C dX8_work_295 rfl ?_
                refine kt_callV (n := 4) C (w_X8_by  hV) (by decide) rfl rfl wd_487 wd_488 wd_489 wd_5 wd_490 hd_X8_by rfl ⟨Nat.le_of_ble_eq_true rfl, Nat.le_of_ble_eq_true rfl⟩ ⟨Nat.zero_le _, Nat.zero_le _⟩ rfl (Nat.le_of_ble_eq_true rfl) dX8_work_297 (fun r m6 hE => ?_)
                obtain ⟨v7, rfl, hV⟩ := hE
                refine kt_sti ?_
                exact kt_iret C ⟨_, rfl, hV⟩ dX8_work_300
              · have hV := hV.2 c282
                refine kt_iconst (v := 3) C dX8_work_285 (by decide) ?_
                refine kt_goto C 300 dX8_work_286 rfl ?_
                exact kt_iret C ⟨_, rfl, hV⟩ dX8_work_300
          · have hV := hV.2 c248
            refine kt_iload C dX8_work_251 rfl ?_
            refine kt_iload C dX8_work_253 rfl ?_
            refine kt_icmp_ne C 262 dX8_work_255 rfl (fun c255 => ?_) (fun c255 => ?_)
            · have hV := hV.1 c255
              refine kt_iconst (v := 4) C dX8_work_262 (by decide) ?_
              exact kt_iret C ⟨_, rfl, hV⟩ dX8_work_263
            · have hV := hV.2 c255
              refine kt_iconst (v := 0) C dX8_work_258 (by decide) ?_
              refine kt_goto C 263 dX8_work_259 rfl ?_
              exact kt_iret C ⟨_, rfl, hV⟩ dX8_work_263
        · have hV := hV.2 c208
          refine kt_iconst (v := 2) C dX8_work_211 (by decide) ?_
          exact kt_iret C ⟨_, rfl, hV⟩ dX8_work_212
      · have hV := hV.2 c129
        refine kt_iload C dX8_work_132 rfl ?_
        refine kt_if_lt C 143 dX8_work_134 rfl (fun c134 => ?_) (fun c134 => ?_)
        · have hV := hV.1 c134
          refine kt_iconst (v := 2) C dX8_work_143 (by decide) ?_
          exact kt_iret C ⟨_, rfl, hV⟩ dX8_work_144
        · have hV := hV.2 c134
          refine kt_iload C dX8_work_137 rfl ?_
          refine kt_iconst (v := 2) C dX8_work_139 (by decide) ?_
          refine kt_icmp_le C 145 dX8_work_140 rfl (fun c140 => ?_) (fun c140 => ?_)
          · have hV := hV.1 c140
            refine kt_aload_n C dX8_work_145 rfl rfl ?_
            refine kt_get (ci := 8) C 12 (by decide) rfl rfl inlX8 (by decide) wd_130 rfl dX8_work_146 ?_
            refine kt_iconst (v := 3) C dX8_work_149 (by decide) ?_
            refine kt_iload_n C dX8_work_150 rfl rfl ?_
            refine kt_imul C dX8_work_151 ?_
            refine kt_iload C dX8_work_152 rfl ?_
            refine kt_iadd C dX8_work_154 ?_
            refine kt_iald C (by decide) rfl hV.1 dX8_work_155 ?_
            have hV := hV.2
            refine kt_aload_n C dX8_work_156 rfl rfl ?_
            refine kt_get (ci := 8) C 13 (by decide) rfl rfl inlX8 (by decide) wd_131 rfl dX8_work_157 ?_
            refine kt_iconst (v := 3) C dX8_work_160 (by decide) ?_
            refine kt_iload_n C dX8_work_161 rfl rfl ?_
            refine kt_imul C dX8_work_162 ?_
            refine kt_iload C dX8_work_163 rfl ?_
            refine kt_iadd C dX8_work_165 ?_
            refine kt_iald C (by decide) rfl hV.1 dX8_work_166 ?_
            have hV := hV.2
            refine kt_icmp_le C 174 dX8_work_167 rfl (fun c167 => ?_) (fun c167 => ?_)
            · have hV := hV.1 c167
              refine kt_aload_n C dX8_work_174 rfl rfl ?_
              refine kt_iload_n C dX8_work_175 rfl rfl ?_
              refine kt_aload_n C dX8_work_176 rfl rfl ?_
              refine kt_get (ci := 8) C 12 (by decide) rfl rfl inlX8 (by decide) wd_130 rfl dX8_work_177 ?_
              refine kt_iconst (v := 3) C dX8_work_180 (by decide) ?_
              refine kt_iload_n C dX8_work_181 rfl rfl ?_
              refine kt_imul C dX8_work_182 ?_
              refine kt_iload C dX8_work_183 rfl ?_
              refine kt_iadd C dX8_work_185 ?_
              refine kt_iald C (by decide) rfl hV.1 dX8_work_186 ?_
              have hV := hV.2
              refine kt_aload_n C dX8_work_187 rfl rfl ?_
              refine kt_get (ci := 8) C 13 (by decide) rfl rfl inlX8 (by decide) wd_131 rfl dX8_work_188 ?_
              refine kt_iconst (v := 3) C dX8_work_191 (by decide) ?_
              refine kt_iload_n C dX8_work_192 rfl rfl ?_
              refine kt_imul C dX8_work_193 ?_
              refine kt_iload C dX8_work_194 rfl ?_
              refine kt_iadd C dX8_work_196 ?_
              refine kt_iald C (by decide) rfl hV.1 dX8_work_197 ?_
              have hV := hV.2
              refine kt_callV (n := 3) C (w_X8_push  hV) (by decide) rfl rfl wd_483 wd_484 wd_485 wd_5 wd_486 hd_X8_push rfl ⟨Nat.le_of_ble_eq_true rfl, Nat.le_of_ble_eq_true rfl⟩ ⟨Nat.zero_le _, Nat.zero_le _⟩ rfl (Nat.le_of_ble_eq_true rfl) dX8_work_198 (fun r m8 hE => ?_)
              obtain ⟨v9, rfl, hV⟩ := hE
              refine kt_sti ?_
              exact kt_iret C ⟨_, rfl, hV⟩ dX8_work_201
            · have hV := hV.2 c167
              refine kt_iconst (v := 1) C dX8_work_170 (by decide) ?_
              refine kt_goto C 201 dX8_work_171 rfl ?_
              exact kt_iret C ⟨_, rfl, hV⟩ dX8_work_201
          · have hV := hV.2 c140
            refine kt_iconst (v := 2) C dX8_work_143 (by decide) ?_
            exact kt_iret C ⟨_, rfl, hV⟩ dX8_work_144
    · have hV := hV.2 c70
      refine kt_iload C dX8_work_73 rfl ?_
      refine kt_callS (n := 1) C (w_X8_isFact  hV) wd_161 wd_162 wd_5 wd_163 hd_X8_isFact rfl ⟨Nat.le_of_ble_eq_true rfl, Nat.le_of_ble_eq_true rfl⟩ ⟨Nat.zero_le _, Nat.zero_le _⟩ rfl (Nat.le_of_ble_eq_true rfl) dX8_work_75 (fun r m10 hE => ?_)
      obtain ⟨v11, rfl, hV⟩ := hE
      refine kt_sti ?_
      refine kt_if_ne C 85 dX8_work_78 rfl (fun c78 => ?_) (fun c78 => ?_)
      · have hV := hV.1 c78
        refine kt_aload_n C dX8_work_85 rfl rfl ?_
        refine kt_get (ci := 8) C 0 (by decide) rfl rfl inlX8 (by decide) wd_119 rfl dX8_work_86 ?_
        refine kt_iload C dX8_work_89 rfl ?_
        refine kt_iald C (by decide) rfl hV.1 dX8_work_91 ?_
        have hV := hV.2
        refine kt_aload_n C dX8_work_92 rfl rfl ?_
        refine kt_get (ci := 8) C 1 (by decide) rfl rfl inlX8 (by decide) wd_120 rfl dX8_work_93 ?_
        refine kt_iload C dX8_work_96 rfl ?_
        refine kt_iald C (by decide) rfl hV.1 dX8_work_98 ?_
        have hV := hV.2
        refine kt_icmp_le C 106 dX8_work_99 rfl (fun c99 => ?_) (fun c99 => ?_)
        · have hV := hV.1 c99
          refine kt_aload_n C dX8_work_106 rfl rfl ?_
          refine kt_iload_n C dX8_work_107 rfl rfl ?_
          refine kt_aload_n C dX8_work_108 rfl rfl ?_
          refine kt_get (ci := 8) C 0 (by decide) rfl rfl inlX8 (by decide) wd_119 rfl dX8_work_109 ?_
          refine kt_iload C dX8_work_112 rfl ?_
          refine kt_iald C (by decide) rfl hV.1 dX8_work_114 ?_
          have hV := hV.2
          refine kt_aload_n C dX8_work_115 rfl rfl ?_
          refine kt_get (ci := 8) C 1 (by decide) rfl rfl inlX8 (by decide) wd_120 rfl dX8_work_116 ?_
          refine kt_iload C dX8_work_119 rfl ?_
          refine kt_iald C (by decide) rfl hV.1 dX8_work_121 ?_
          have hV := hV.2
          refine kt_callV (n := 3) C (w_X8_push  hV) (by decide) rfl rfl wd_483 wd_484 wd_485 wd_5 wd_486 hd_X8_push rfl ⟨Nat.le_of_ble_eq_true rfl, Nat.le_of_ble_eq_true rfl⟩ ⟨Nat.zero_le _, Nat.zero_le _⟩ rfl (Nat.le_of_ble_eq_true rfl) dX8_work_122 (fun r m12 hE => ?_)
          obtain ⟨v13, rfl, hV⟩ := hE
          refine kt_sti ?_
          exact kt_iret C ⟨_, rfl, hV⟩ dX8_work_125
        · have hV := hV.2 c99
          refine kt_iconst (v := 1) C dX8_work_102 (by decide) ?_
          refine kt_goto C 125 dX8_work_103 rfl ?_
          exact kt_iret C ⟨_, rfl, hV⟩ dX8_work_125
      · have hV := hV.2 c78
        refine kt_iconst (v := 2) C dX8_work_81 (by decide) ?_
        refine kt_goto C 125 dX8_work_82 rfl ?_
        exact kt_iret C ⟨_, rfl, hV⟩ dX8_work_125
  · have hV := hV.2 c26
    refine kt_aload_n C dX8_work_29 rfl rfl ?_
    refine kt_get (ci := 8) C 7 (by decide) rfl rfl inlX8 (by decide) wd_125 rfl dX8_work_30 ?_
    refine kt_bipush (v := 8) C dX8_work_33 (by decide) ?_
    refine kt_iload_n C dX8_work_35 rfl rfl ?_
    refine kt_imul C dX8_work_36 ?_
    refine kt_iload_n C dX8_work_37 rfl rfl ?_
    refine kt_iadd C dX8_work_38 ?_
    refine kt_iald C (by decide) rfl hV.1 dX8_work_39 ?_
    have hV := hV.2
    refine kt_iload C dX8_work_40 rfl ?_
    refine kt_icmp_ge C 49 dX8_work_42 rfl (fun c42 => ?_) (fun c42 => ?_)
    · have hV := hV.1 c42
      refine kt_aload_n C dX8_work_49 rfl rfl ?_
      refine kt_iload_n C dX8_work_50 rfl rfl ?_
      refine kt_iload C dX8_work_51 rfl ?_
      refine kt_aload_n C dX8_work_53 rfl rfl ?_
      refine kt_get (ci := 8) C 7 (by decide) rfl rfl inlX8 (by decide) wd_125 rfl dX8_work_54 ?_
      refine kt_bipush (v := 8) C dX8_work_57 (by decide) ?_
      refine kt_iload_n C dX8_work_59 rfl rfl ?_
      refine kt_imul C dX8_work_60 ?_
      refine kt_iload_n C dX8_work_61 rfl rfl ?_
      refine kt_iadd C dX8_work_62 ?_
      refine kt_iald C (by decide) rfl hV.1 dX8_work_63 ?_
      have hV := hV.2
      refine kt_callV (n := 3) C (w_X8_push  hV) (by decide) rfl rfl wd_483 wd_484 wd_485 wd_5 wd_486 hd_X8_push rfl ⟨Nat.le_of_ble_eq_true rfl, Nat.le_of_ble_eq_true rfl⟩ ⟨Nat.zero_le _, Nat.zero_le _⟩ rfl (Nat.le_of_ble_eq_true rfl) dX8_work_64 (fun r m14 hE => ?_)
      obtain ⟨v15, rfl, hV⟩ := hE
      refine kt_sti ?_
      exact kt_iret C ⟨_, rfl, hV⟩ dX8_work_67
    · have hV := hV.2 c42
      refine kt_iconst (v := 5) C dX8_work_45 (by decide) ?_
      refine kt_goto C 67 dX8_work_46 rfl ?_
      exact kt_iret C ⟨_, rfl, hV⟩ dX8_work_67
theorem hd_X8_workerAt : yX8_workerAt.cls = RX8 ∧ yX8_workerAt.cls ≠ "java/lang/invoke/MethodHandle" ∧ yX8_workerAt.cls ≠ "java/lang/invoke/VarHandle" ∧ (parseMethodDescriptor yX8_workerAt.desc).map (fun d => d.parameters.length) = some 1 := by decide +kernel
def V_X8_workerAt_4 (n : Nat) (y1 : Int32) (y2 : Int32) (y3 : Int32) (m : MW) (K : Int32 → MW → Prop) : Prop := match n with
  | 0 => False
  | n + 1 => ((4 ≤ y3 → (K (-2000000) m)) ∧ (¬ 4 ≤ y3 → (vp_in y3 4 ∧ (((m.2 50 (y3).toNatClampNeg) = 0 → (V_X8_workerAt_4 n  (y1) (y2) ((y3 + 1)) m K)) ∧ (¬ (m.2 50 (y3).toNatClampNeg) = 0 → ((¬ y2 = 0 → (V_X8_workerAt_4 n  (y1) ((y2 + (-1))) ((y3 + 1)) m K)) ∧ (y2 = 0 → (K y3 m))))))))
def V_X8_workerAt (x1 : Int32) (m : MW) (K : Int32 → MW → Prop) : Prop := (∃ k : Nat, V_X8_workerAt_4 k  (x1) (x1) (0) m K)
set_option maxHeartbeats 4000000 in
set_option maxRecDepth 100000 in
theorem w_X8_workerAt_4 {p : Program} {l : Launch} {e : Env} {s : State} {mi : MethodId} {args : Array Value} {below : List Frame} {meth : Method} {c : Code} {g : GG} {K : Int32 → MW → Prop} (C : Cx p s mi args meth c cX8_workerAt RX8 4 (some .int) g) (n : Nat) : ∀ {y1 : Int32} {y2 : Int32} {y3 : Int32} {m : MW}, V_X8_workerAt_4 n  y1 y2 y3 m K → TT p l e { frames := 0, cells := 0, slots := 0, locals := 0 } s mi args below meth c 0 0 (MQ below (QE g (Ei K)) args s 0 0 (gA g)) g 4 m 4 [(0, .ref (gad g 22 0)), (1, .int (y1)), (2, .int (y2)), (3, .int (y3))] [] := by
  induction n with
  | zero => intros; rename_i hV; exact absurd hV (by simp [V_X8_workerAt_4])
  | succ n ih =>
    intro y1 y2 y3 m hV
    unfold V_X8_workerAt_4 at hV
    refine kt_iload_n C dX8_workerAt_4 rfl rfl ?_
    refine kt_iconst (v := 4) C dX8_workerAt_5 (by decide) ?_
    refine kt_icmp_ge C 33 dX8_workerAt_6 rfl (fun c6 => ?_) (fun c6 => ?_)
    · have hV := hV.1 c6
      refine kt_ldc (v := (-2000000)) C wd_139 dX8_workerAt_33 ?_
      exact kt_iret C ⟨_, rfl, hV⟩ dX8_workerAt_35
    · have hV := hV.2 c6
      refine kt_aload_n C dX8_workerAt_9 rfl rfl ?_
      refine kt_get (ci := 8) C 20 (by decide) rfl rfl inlX8 (by decide) wd_136 rfl dX8_workerAt_10 ?_
      refine kt_iload_n C dX8_workerAt_13 rfl rfl ?_
      refine kt_zald C (by decide) rfl hV.1 dX8_workerAt_14 ?_
      have hV := hV.2
      refine kt_if_eq C 27 dX8_workerAt_15 rfl (fun c15 => ?_) (fun c15 => ?_)
      · have hV := hV.1 c15
        refine kt_iinc (v := _ + 1) (lv' := [(3, .int _), (0, .ref _), (1, .int _), (2, .int _)]) C dX8_workerAt_27 rfl rfl (by decide) rfl ?_
        refine kt_goto C 4 dX8_workerAt_30 rfl ?_
        refine kt_pick (lv' := [(0, .ref _), (1, .int _), (2, .int _), (3, .int _)]) [1, 2, 3, 0] rfl ?_
        exact ih  hV
      · have hV := hV.2 c15
        refine kt_iload_n C dX8_workerAt_18 rfl rfl ?_
        refine kt_if_ne C 24 dX8_workerAt_19 rfl (fun c19 => ?_) (fun c19 => ?_)
        · have hV := hV.1 c19
          refine kt_iinc (v := _ + (-1)) (lv' := [(2, .int _), (0, .ref _), (1, .int _), (3, .int _)]) C dX8_workerAt_24 rfl rfl (by decide) rfl ?_
          refine kt_iinc (v := _ + 1) (lv' := [(3, .int _), (2, .int _), (0, .ref _), (1, .int _)]) C dX8_workerAt_27 rfl rfl (by decide) rfl ?_
          refine kt_goto C 4 dX8_workerAt_30 rfl ?_
          refine kt_pick (lv' := [(0, .ref _), (1, .int _), (2, .int _), (3, .int _)]) [2, 3, 1, 0] rfl ?_
          exact ih  hV
        · have hV := hV.2 c19
          refine kt_iload_n C dX8_workerAt_22 rfl rfl ?_
          exact kt_iret C ⟨_, rfl, hV⟩ dX8_workerAt_23
set_option maxHeartbeats 4000000 in
set_option maxRecDepth 100000 in
theorem w_X8_workerAt {l : Launch} {g : GG} {x1 : Int32} {m : MW} {K : Int32 → MW → Prop} (hV : V_X8_workerAt  x1 m K) : Ct l yX8_workerAt cX8_workerAt 4 (some .int) 0 0 [.ref (gad g 22 0), .int x1] g m (Ei K) := by
  refine ct_intro RX8 (by decide) rfl (Nat.le_of_ble_eq_true rfl) ?_
  intro p e s mi below meth c C
  unfold V_X8_workerAt at hV
  refine kt_iload_n C dX8_workerAt_0 rfl rfl ?_
  refine kt_istore_n (lv' := [(2, .int _), (0, .ref _), (1, .int _)]) C dX8_workerAt_1 rfl (by decide) rfl ?_
  refine kt_iconst (v := 0) C dX8_workerAt_2 (by decide) ?_
  refine kt_istore_n (lv' := [(3, .int _), (2, .int _), (0, .ref _), (1, .int _)]) C dX8_workerAt_3 rfl (by decide) rfl ?_
  obtain ⟨k, hV⟩ := hV
  refine kt_pick (lv' := [(0, .ref _), (1, .int _), (2, .int _), (3, .int _)]) [2, 3, 1, 0] rfl ?_
  exact w_X8_workerAt_4 C  k hV
theorem hd_X8_done : yX8_done.cls = RX8 ∧ yX8_done.cls ≠ "java/lang/invoke/MethodHandle" ∧ yX8_done.cls ≠ "java/lang/invoke/VarHandle" ∧ (parseMethodDescriptor yX8_done.desc).map (fun d => d.parameters.length) = some 2 := by decide +kernel
def V_X8_done (x1 : Int32) (x2 : Int32) (m : MW) (K : MW → Prop) : Prop := (vp_in x2 10 ∧ ∀ m1 : MW, m1 = (m.1, up2 m.2 46 (x2).toNatClampNeg 1) → (vp_in x2 10 ∧ ∀ m2 : MW, m2 = (m1.1, up2 m1.2 45 (x2).toNatClampNeg x1) → (vp_in x1 4 ∧ ∀ m3 : MW, m3 = (m2.1, up2 m2.2 52 (x1).toNatClampNeg (-2000000)) → (∀ m4 : MW, m4 = (m3.1, up2 m3.2 22 33 ((m3.2 22 33) + 1)) → (vp_in x2 10 ∧ ((¬ (m4.2 44 (x2).toNatClampNeg) = 0 → (K m4)) ∧ ((m4.2 44 (x2).toNatClampNeg) = 0 → (vp_in x2 10 ∧ ((¬ (m4.2 39 (x2).toNatClampNeg) = 0 → (K m4)) ∧ ((m4.2 39 (x2).toNatClampNeg) = 0 → (vp_in x2 10 ∧ ∀ m5 : MW, m5 = (m4.1, up2 m4.2 44 (x2).toNatClampNeg 2) → (K m5))))))))))))
set_option maxHeartbeats 4000000 in
set_option maxRecDepth 100000 in
theorem w_X8_done {l : Launch} {g : GG} {x1 : Int32} {x2 : Int32} {m : MW} {K : MW → Prop} (hV : V_X8_done  x1 x2 m K) : Ct l yX8_done cX8_done 3 none 0 0 [.ref (gad g 22 0), .int x1, .int x2] g m (Ev K) := by
  refine ct_intro RX8 (by decide) rfl (Nat.le_of_ble_eq_true rfl) ?_
  intro p e s mi below meth c C
  unfold V_X8_done at hV
  refine kt_aload_n C dX8_done_0 rfl rfl ?_
  refine kt_get (ci := 8) C 16 (by decide) rfl rfl inlX8 (by decide) wd_134 rfl dX8_done_1 ?_
  refine kt_iload_n C dX8_done_4 rfl rfl ?_
  refine kt_iconst (v := 1) C dX8_done_5 (by decide) ?_
  refine kt_zast2 (v' := 1) C rfl rfl hV.1 rfl (ea_46 _ _ _ _) dX8_done_6 (fun m1 hm1 => ?_)
  have hV := hV.2 m1 hm1
  refine kt_aload_n C dX8_done_7 rfl rfl ?_
  refine kt_get (ci := 8) C 15 (by decide) rfl rfl inlX8 (by decide) wd_133 rfl dX8_done_8 ?_
  refine kt_iload_n C dX8_done_11 rfl rfl ?_
  refine kt_iload_n C dX8_done_12 rfl rfl ?_
  refine kt_iast2 C rfl rfl hV.1 (ea_45 _ _ _ _) dX8_done_13 (fun m2 hm2 => ?_)
  have hV := hV.2 m2 hm2
  refine kt_aload_n C dX8_done_14 rfl rfl ?_
  refine kt_get (ci := 8) C 22 (by decide) rfl rfl inlX8 (by decide) wd_138 rfl dX8_done_15 ?_
  refine kt_iload_n C dX8_done_18 rfl rfl ?_
  refine kt_ldc (v := (-2000000)) C wd_139 dX8_done_19 ?_
  refine kt_iast2 C rfl rfl hV.1 (ea_52 _ _ _ _) dX8_done_21 (fun m3 hm3 => ?_)
  have hV := hV.2 m3 hm3
  refine kt_aload_n C dX8_done_22 rfl rfl ?_
  refine kt_dup C dX8_done_23 rfl ?_
  refine kt_get (ci := 8) C 33 (by decide) rfl rfl inlX8 (by decide) wd_450 rfl dX8_done_24 ?_
  refine kt_iconst (v := 1) C dX8_done_27 (by decide) ?_
  refine kt_iadd C dX8_done_28 ?_
  refine kt_put2 (ty := .int) C 33 rfl (by decide) wd_450 rfl (by decide +kernel) rfl rfl (Nat.le_of_ble_eq_true rfl) (ep2_33 _ _ _) dX8_done_29 (fun m4 hm4 => ?_)
  have hV := hV m4 hm4
  refine kt_aload_n C dX8_done_32 rfl rfl ?_
  refine kt_get (ci := 8) C 14 (by decide) rfl rfl inlX8 (by decide) wd_132 rfl dX8_done_33 ?_
  refine kt_iload_n C dX8_done_36 rfl rfl ?_
  refine kt_iald C (by decide) rfl hV.1 dX8_done_37 ?_
  have hV := hV.2
  refine kt_if_ne C 57 dX8_done_38 rfl (fun c38 => ?_) (fun c38 => ?_)
  · have hV := hV.1 c38
    exact kt_vret C ⟨rfl, hV⟩ dX8_done_57
  · have hV := hV.2 c38
    refine kt_aload_n C dX8_done_41 rfl rfl ?_
    refine kt_get (ci := 8) C 9 (by decide) rfl rfl inlX8 (by decide) wd_127 rfl dX8_done_42 ?_
    refine kt_iload_n C dX8_done_45 rfl rfl ?_
    refine kt_iald C (by decide) rfl hV.1 dX8_done_46 ?_
    have hV := hV.2
    refine kt_if_ne C 57 dX8_done_47 rfl (fun c47 => ?_) (fun c47 => ?_)
    · have hV := hV.1 c47
      exact kt_vret C ⟨rfl, hV⟩ dX8_done_57
    · have hV := hV.2 c47
      refine kt_aload_n C dX8_done_50 rfl rfl ?_
      refine kt_get (ci := 8) C 14 (by decide) rfl rfl inlX8 (by decide) wd_132 rfl dX8_done_51 ?_
      refine kt_iload_n C dX8_done_54 rfl rfl ?_
      refine kt_iconst (v := 2) C dX8_done_55 (by decide) ?_
      refine kt_iast2 C rfl rfl hV.1 (ea_44 _ _ _ _) dX8_done_56 (fun m5 hm5 => ?_)
      have hV := hV.2 m5 hm5
      exact kt_vret C ⟨rfl, hV⟩ dX8_done_57
