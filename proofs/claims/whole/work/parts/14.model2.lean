theorem hd_X8_turn : yX8_turn.cls = RX8 ∧ yX8_turn.cls ≠ "java/lang/invoke/MethodHandle" ∧ yX8_turn.cls ≠ "java/lang/invoke/VarHandle" ∧ (parseMethodDescriptor yX8_turn.desc).map (fun d => d.parameters.length) = some 0 := by decide +kernel
def V_X8_turn (m : MW) (K : MW → Prop) : Prop := (∀ m1 : MW, m1 = (m.1, up2 m.2 22 23 ((m.2 22 23) + 1)) → (∀ m2 : MW, m2 = (m1.1, up2 m1.2 22 24 (((m1.2 22 24) * (1103515245)) + 12345)) → (V_X8_workersLeft   m2 (fun v4 m3 => ((¬ v4 = 0) ∧ (V_X8_workerAt  ((((m2.2 22 24).toUInt32 >>> (Int32.toUInt32 16 &&& Int32.toUInt32 31)).toInt32 - ((m2.2 22 24).toUInt32 >>> (Int32.toUInt32 16 &&& Int32.toUInt32 31)).toInt32 / v4 * v4)) m3 (fun v6 m5 => (∀ m7 : MW, m7 = (m5.1, up2 m5.2 22 25 v6) → (vp_in v6 4 ∧ (((m7.2 51 (v6).toNatClampNeg) ≤ 0 → (vp_in v6 4 ∧ ((¬ (m7.2 52 (v6).toNatClampNeg) = (-2000000) → (vp_in v6 4 ∧ (vp_in (m7.2 52 (v6).toNatClampNeg) 10 ∧ (V_X8_work  ((m7.2 52 (v6).toNatClampNeg)) ((m7.2 38 ((m7.2 52 (v6).toNatClampNeg)).toNatClampNeg)) m7 (fun v9 m8 => (vp_in (m7.2 52 (v6).toNatClampNeg) 10 ∧ ∀ m10 : MW, m10 = (m8.1, up2 m8.2 44 ((m7.2 52 (v6).toNatClampNeg)).toNatClampNeg v9) → (vp_in (m7.2 52 (v6).toNatClampNeg) 10 ∧ (vp_in (m7.2 52 (v6).toNatClampNeg) 10 ∧ ∀ m11 : MW, m11 = (m10.1, up2 m10.2 38 ((m7.2 52 (v6).toNatClampNeg)).toNatClampNeg ((m10.2 38 ((m7.2 52 (v6).toNatClampNeg)).toNatClampNeg) + 1)) → (vp_in (m7.2 52 (v6).toNatClampNeg) 10 ∧ ((0 < (m11.2 44 ((m7.2 52 (v6).toNatClampNeg)).toNatClampNeg) → (V_X8_done  (v6) ((m7.2 52 (v6).toNatClampNeg)) m11 (fun m12 => (K m12)))) ∧ (¬ 0 < (m11.2 44 ((m7.2 52 (v6).toNatClampNeg)).toNatClampNeg) → (vp_in (m7.2 52 (v6).toNatClampNeg) 10 ∧ (vp_in (m7.2 52 (v6).toNatClampNeg) 10 ∧ ((¬ (m11.2 38 ((m7.2 52 (v6).toNatClampNeg)).toNatClampNeg) = (m11.2 34 ((m7.2 52 (v6).toNatClampNeg)).toNatClampNeg) → (K m11)) ∧ ((m11.2 38 ((m7.2 52 (v6).toNatClampNeg)).toNatClampNeg) = (m11.2 34 ((m7.2 52 (v6).toNatClampNeg)).toNatClampNeg) → (V_X8_done  (v6) ((m7.2 52 (v6).toNatClampNeg)) m11 (fun m13 => (K m13)))))))))))))))))) ∧ ((m7.2 52 (v6).toNatClampNeg) = (-2000000) → (((m7.2 22 19) ≤ (m7.2 22 18) → (K m7)) ∧ (¬ (m7.2 22 19) ≤ (m7.2 22 18) → (vp_in (m7.2 22 18) 400 ∧ (∀ m14 : MW, m14 = (m7.1, up2 m7.2 22 18 ((m7.2 22 18) + 1)) → (vp_in v6 4 ∧ ∀ m15 : MW, m15 = (m14.1, up2 m14.2 52 (v6).toNatClampNeg (m7.2 47 ((m7.2 22 18)).toNatClampNeg)) → (∀ m16 : MW, m16 = (m15.1, up2 m15.2 22 32 ((m15.2 22 32) + 1)) → (V_X8_begin  ((m7.2 47 ((m7.2 22 18)).toNatClampNeg)) m16 (fun m17 => (vp_in (m7.2 47 ((m7.2 22 18)).toNatClampNeg) 10 ∧ ((¬ (m17.2 34 ((m7.2 47 ((m7.2 22 18)).toNatClampNeg)).toNatClampNeg) = 0 → (K m17)) ∧ ((m17.2 34 ((m7.2 47 ((m7.2 22 18)).toNatClampNeg)).toNatClampNeg) = 0 → (V_X8_done  (v6) ((m7.2 47 ((m7.2 22 18)).toNatClampNeg)) m17 (fun m18 => (K m18)))))))))))))))))) ∧ (¬ (m7.2 51 (v6).toNatClampNeg) ≤ 0 → (vp_in v6 4 ∧ (((m7.2 22 23) < (m7.2 51 (v6).toNatClampNeg) → (vp_in v6 4 ∧ ((¬ (m7.2 52 (v6).toNatClampNeg) = (-2000000) → (vp_in v6 4 ∧ (vp_in (m7.2 52 (v6).toNatClampNeg) 10 ∧ (V_X8_work  ((m7.2 52 (v6).toNatClampNeg)) ((m7.2 38 ((m7.2 52 (v6).toNatClampNeg)).toNatClampNeg)) m7 (fun v20 m19 => (vp_in (m7.2 52 (v6).toNatClampNeg) 10 ∧ ∀ m21 : MW, m21 = (m19.1, up2 m19.2 44 ((m7.2 52 (v6).toNatClampNeg)).toNatClampNeg v20) → (vp_in (m7.2 52 (v6).toNatClampNeg) 10 ∧ (vp_in (m7.2 52 (v6).toNatClampNeg) 10 ∧ ∀ m22 : MW, m22 = (m21.1, up2 m21.2 38 ((m7.2 52 (v6).toNatClampNeg)).toNatClampNeg ((m21.2 38 ((m7.2 52 (v6).toNatClampNeg)).toNatClampNeg) + 1)) → (vp_in (m7.2 52 (v6).toNatClampNeg) 10 ∧ ((0 < (m22.2 44 ((m7.2 52 (v6).toNatClampNeg)).toNatClampNeg) → (V_X8_done  (v6) ((m7.2 52 (v6).toNatClampNeg)) m22 (fun m23 => (K m23)))) ∧ (¬ 0 < (m22.2 44 ((m7.2 52 (v6).toNatClampNeg)).toNatClampNeg) → (vp_in (m7.2 52 (v6).toNatClampNeg) 10 ∧ (vp_in (m7.2 52 (v6).toNatClampNeg) 10 ∧ ((¬ (m22.2 38 ((m7.2 52 (v6).toNatClampNeg)).toNatClampNeg) = (m22.2 34 ((m7.2 52 (v6).toNatClampNeg)).toNatClampNeg) → (K m22)) ∧ ((m22.2 38 ((m7.2 52 (v6).toNatClampNeg)).toNatClampNeg) = (m22.2 34 ((m7.2 52 (v6).toNatClampNeg)).toNatClampNeg) → (V_X8_done  (v6) ((m7.2 52 (v6).toNatClampNeg)) m22 (fun m24 => (K m24)))))))))))))))))) ∧ ((m7.2 52 (v6).toNatClampNeg) = (-2000000) → (((m7.2 22 19) ≤ (m7.2 22 18) → (K m7)) ∧ (¬ (m7.2 22 19) ≤ (m7.2 22 18) → (vp_in (m7.2 22 18) 400 ∧ (∀ m25 : MW, m25 = (m7.1, up2 m7.2 22 18 ((m7.2 22 18) + 1)) → (vp_in v6 4 ∧ ∀ m26 : MW, m26 = (m25.1, up2 m25.2 52 (v6).toNatClampNeg (m7.2 47 ((m7.2 22 18)).toNatClampNeg)) → (∀ m27 : MW, m27 = (m26.1, up2 m26.2 22 32 ((m26.2 22 32) + 1)) → (V_X8_begin  ((m7.2 47 ((m7.2 22 18)).toNatClampNeg)) m27 (fun m28 => (vp_in (m7.2 47 ((m7.2 22 18)).toNatClampNeg) 10 ∧ ((¬ (m28.2 34 ((m7.2 47 ((m7.2 22 18)).toNatClampNeg)).toNatClampNeg) = 0 → (K m28)) ∧ ((m28.2 34 ((m7.2 47 ((m7.2 22 18)).toNatClampNeg)).toNatClampNeg) = 0 → (V_X8_done  (v6) ((m7.2 47 ((m7.2 22 18)).toNatClampNeg)) m28 (fun m29 => (K m29)))))))))))))))))) ∧ (¬ (m7.2 22 23) < (m7.2 51 (v6).toNatClampNeg) → (vp_in v6 4 ∧ ∀ m30 : MW, m30 = (m7.1, up2 m7.2 50 (v6).toNatClampNeg 0) → (vp_in v6 4 ∧ (((m30.2 52 (v6).toNatClampNeg) = (-2000000) → (K m30)) ∧ (¬ (m30.2 52 (v6).toNatClampNeg) = (-2000000) → (∀ m31 : MW, m31 = (m30.1, up2 m30.2 22 18 ((m30.2 22 18) - 1)) → (vp_in v6 4 ∧ (vp_in (m31.2 22 18) 400 ∧ ∀ m32 : MW, m32 = (m31.1, up2 m31.2 47 ((m31.2 22 18)).toNatClampNeg (m31.2 52 (v6).toNatClampNeg)) → (vp_in v6 4 ∧ ∀ m33 : MW, m33 = (m32.1, up2 m32.2 52 (v6).toNatClampNeg (-2000000)) → (∀ m34 : MW, m34 = (m33.1, up2 m33.2 22 33 ((m33.2 22 33) + 1)) → (K m34))))))))))))))))))))))))
set_option maxHeartbeats 4000000 in
set_option maxRecDepth 100000 in
theorem w_X8_turn {l : Launch} {g : GG} {m : MW} {K : MW → Prop} (hV : V_X8_turn   m K) : Ct l yX8_turn cX8_turn 3 none 3 78 [.ref (gad g 22 0)] g m (Ev K) := by
  refine ct_intro RX8 (by decide) rfl (Nat.le_of_ble_eq_true rfl) ?_
  intro p e s mi below meth c C
  unfold V_X8_turn at hV
  refine kt_aload_n C dX8_turn_0 rfl rfl ?_
  refine kt_dup C dX8_turn_1 rfl ?_
  refine kt_get (ci := 8) C 23 (by decide) rfl rfl inlX8 (by decide) wd_465 rfl dX8_turn_2 ?_
  refine kt_iconst (v := 1) C dX8_turn_5 (by decide) ?_
  refine kt_iadd C dX8_turn_6 ?_
  refine kt_put2 (ty := .int) C 23 rfl (by decide) wd_465 rfl (by decide +kernel) rfl rfl (Nat.le_of_ble_eq_true rfl) (ep2_23 _ _ _) dX8_turn_7 (fun m1 hm1 => ?_)
  have hV := hV m1 hm1
  refine kt_aload_n C dX8_turn_10 rfl rfl ?_
  refine kt_aload_n C dX8_turn_11 rfl rfl ?_
  refine kt_get (ci := 8) C 24 (by decide) rfl rfl inlX8 (by decide) wd_260 rfl dX8_turn_12 ?_
  refine kt_ldc (v := (1103515245)) C wd_466 dX8_turn_15 ?_
  refine kt_imul C dX8_turn_17 ?_
  refine kt_sipush (v := 12345) C dX8_turn_18 (by decide) ?_
  refine kt_iadd C dX8_turn_21 ?_
  refine kt_put2 (ty := .int) C 24 rfl (by decide) wd_260 rfl (by decide +kernel) rfl rfl (Nat.le_of_ble_eq_true rfl) (ep2_24 _ _ _) dX8_turn_22 (fun m2 hm2 => ?_)
  have hV := hV m2 hm2
  refine kt_aload_n C dX8_turn_25 rfl rfl ?_
  refine kt_aload_n C dX8_turn_26 rfl rfl ?_
  refine kt_get (ci := 8) C 24 (by decide) rfl rfl inlX8 (by decide) wd_260 rfl dX8_turn_27 ?_
  refine kt_bipush (v := 16) C dX8_turn_30 (by decide) ?_
  refine kt_iushr C dX8_turn_32 rfl ?_
  refine kt_aload_n C dX8_turn_33 rfl rfl ?_
  refine kt_callV (n := 0) C (w_X8_workersLeft  hV) (by decide) rfl rfl wd_231 wd_232 wd_233 wd_5 wd_234 hd_X8_workersLeft rfl ⟨Nat.le_of_ble_eq_true rfl, Nat.le_of_ble_eq_true rfl⟩ ⟨Nat.zero_le _, Nat.zero_le _⟩ rfl (Nat.le_of_ble_eq_true rfl) dX8_turn_34 (fun r m3 hE => ?_)
  obtain ⟨v4, rfl, hV⟩ := hE
  refine kt_sti ?_
  refine kt_irem C dX8_turn_37 hV.1 ?_
  have hV := hV.2
  refine kt_callV (n := 1) C (w_X8_workerAt  hV) (by decide) rfl rfl wd_467 wd_468 wd_469 wd_5 wd_470 hd_X8_workerAt rfl ⟨Nat.le_of_ble_eq_true rfl, Nat.le_of_ble_eq_true rfl⟩ ⟨Nat.zero_le _, Nat.zero_le _⟩ rfl (Nat.le_of_ble_eq_true rfl) dX8_turn_38 (fun r m5 hE => ?_)
  obtain ⟨v6, rfl, hV⟩ := hE
  refine kt_sti ?_
  refine kt_istore_n (lv' := [(1, .int _), (0, .ref _)]) C dX8_turn_41 rfl (by decide) rfl ?_
  refine kt_aload_n C dX8_turn_42 rfl rfl ?_
  refine kt_iload_n C dX8_turn_43 rfl rfl ?_
  refine kt_put2 (ty := .int) C 25 rfl (by decide) wd_140 rfl (by decide +kernel) rfl rfl (Nat.le_of_ble_eq_true rfl) (ep2_25 _ _ _) dX8_turn_44 (fun m7 hm7 => ?_)
  have hV := hV m7 hm7
  refine kt_aload_n C dX8_turn_47 rfl rfl ?_
  refine kt_get (ci := 8) C 21 (by decide) rfl rfl inlX8 (by decide) wd_137 rfl dX8_turn_48 ?_
  refine kt_iload_n C dX8_turn_51 rfl rfl ?_
  refine kt_iald C (by decide) rfl hV.1 dX8_turn_52 ?_
  have hV := hV.2
  refine kt_if_le C 131 dX8_turn_53 rfl (fun c53 => ?_) (fun c53 => ?_)
  · have hV := hV.1 c53
    refine kt_aload_n C dX8_turn_131 rfl rfl ?_
    refine kt_get (ci := 8) C 22 (by decide) rfl rfl inlX8 (by decide) wd_138 rfl dX8_turn_132 ?_
    refine kt_iload_n C dX8_turn_135 rfl rfl ?_
    refine kt_iald C (by decide) rfl hV.1 dX8_turn_136 ?_
    have hV := hV.2
    refine kt_ldc (v := (-2000000)) C wd_139 dX8_turn_137 ?_
    refine kt_icmp_ne C 211 dX8_turn_139 rfl (fun c139 => ?_) (fun c139 => ?_)
    · have hV := hV.1 c139
      refine kt_aload_n C dX8_turn_211 rfl rfl ?_
      refine kt_get (ci := 8) C 22 (by decide) rfl rfl inlX8 (by decide) wd_138 rfl dX8_turn_212 ?_
      refine kt_iload_n C dX8_turn_215 rfl rfl ?_
      refine kt_iald C (by decide) rfl hV.1 dX8_turn_216 ?_
      have hV := hV.2
      refine kt_istore_n (lv' := [(2, .int _), (1, .int _), (0, .ref _)]) C dX8_turn_217 rfl (by decide) rfl ?_
      refine kt_aload_n C dX8_turn_218 rfl rfl ?_
      refine kt_get (ci := 8) C 14 (by decide) rfl rfl inlX8 (by decide) wd_132 rfl dX8_turn_219 ?_
      refine kt_iload_n C dX8_turn_222 rfl rfl ?_
      refine kt_aload_n C dX8_turn_223 rfl rfl ?_
      refine kt_iload_n C dX8_turn_224 rfl rfl ?_
      refine kt_aload_n C dX8_turn_225 rfl rfl ?_
      refine kt_get (ci := 8) C 8 (by decide) rfl rfl inlX8 (by decide) wd_126 rfl dX8_turn_226 ?_
      refine kt_iload_n C dX8_turn_229 rfl rfl ?_
      refine kt_iald C (by decide) rfl hV.1 dX8_turn_230 ?_
      have hV := hV.2
      refine kt_callV (n := 2) C (w_X8_work  hV) (by decide) rfl rfl wd_479 wd_480 wd_481 wd_5 wd_482 hd_X8_work rfl ⟨Nat.le_of_ble_eq_true rfl, Nat.le_of_ble_eq_true rfl⟩ ⟨Nat.zero_le _, Nat.zero_le _⟩ rfl (Nat.le_of_ble_eq_true rfl) dX8_turn_231 (fun r m8 hE => ?_)
      obtain ⟨v9, rfl, hV⟩ := hE
      refine kt_sti ?_
      refine kt_iast2 C rfl rfl hV.1 (ea_44 _ _ _ _) dX8_turn_234 (fun m10 hm10 => ?_)
      have hV := hV.2 m10 hm10
      refine kt_aload_n C dX8_turn_235 rfl rfl ?_
      refine kt_get (ci := 8) C 8 (by decide) rfl rfl inlX8 (by decide) wd_126 rfl dX8_turn_236 ?_
      refine kt_iload_n C dX8_turn_239 rfl rfl ?_
      refine kt_dup2 C dX8_turn_240 rfl rfl ?_
      refine kt_iald C (by decide) rfl hV.1 dX8_turn_241 ?_
      have hV := hV.2
      refine kt_iconst (v := 1) C dX8_turn_242 (by decide) ?_
      refine kt_iadd C dX8_turn_243 ?_
      refine kt_iast2 C rfl rfl hV.1 (ea_38 _ _ _ _) dX8_turn_244 (fun m11 hm11 => ?_)
      have hV := hV.2 m11 hm11
      refine kt_aload_n C dX8_turn_245 rfl rfl ?_
      refine kt_get (ci := 8) C 14 (by decide) rfl rfl inlX8 (by decide) wd_132 rfl dX8_turn_246 ?_
      refine kt_iload_n C dX8_turn_249 rfl rfl ?_
      refine kt_iald C (by decide) rfl hV.1 dX8_turn_250 ?_
      have hV := hV.2
      refine kt_if_gt C 269 dX8_turn_251 rfl (fun c251 => ?_) (fun c251 => ?_)
      · have hV := hV.1 c251
        refine kt_aload_n C dX8_turn_269 rfl rfl ?_
        refine kt_iload_n C dX8_turn_270 rfl rfl ?_
        refine kt_iload_n C dX8_turn_271 rfl rfl ?_
        refine kt_callV (n := 2) C (w_X8_done  hV) (by decide) rfl rfl wd_475 wd_476 wd_477 wd_5 wd_478 hd_X8_done rfl ⟨Nat.le_of_ble_eq_true rfl, Nat.le_of_ble_eq_true rfl⟩ ⟨Nat.zero_le _, Nat.zero_le _⟩ rfl (Nat.le_of_ble_eq_true rfl) dX8_turn_272 (fun r m12 hE => ?_)
        obtain ⟨rfl, hV⟩ := hE
        refine kt_stv ?_
        exact kt_vret C ⟨rfl, hV⟩ dX8_turn_275
      · have hV := hV.2 c251
        refine kt_aload_n C dX8_turn_254 rfl rfl ?_
        refine kt_get (ci := 8) C 8 (by decide) rfl rfl inlX8 (by decide) wd_126 rfl dX8_turn_255 ?_
        refine kt_iload_n C dX8_turn_258 rfl rfl ?_
        refine kt_iald C (by decide) rfl hV.1 dX8_turn_259 ?_
        have hV := hV.2
        refine kt_aload_n C dX8_turn_260 rfl rfl ?_
        refine kt_get (ci := 8) C 4 (by decide) rfl rfl inlX8 (by decide) wd_122 rfl dX8_turn_261 ?_
        refine kt_iload_n C dX8_turn_264 rfl rfl ?_
        refine kt_iald C (by decide) rfl hV.1 dX8_turn_265 ?_
        have hV := hV.2
        refine kt_icmp_ne C 275 dX8_turn_266 rfl (fun c266 => ?_) (fun c266 => ?_)
        · have hV := hV.1 c266
          exact kt_vret C ⟨rfl, hV⟩ dX8_turn_275
        · have hV := hV.2 c266
          refine kt_aload_n C dX8_turn_269 rfl rfl ?_
          refine kt_iload_n C dX8_turn_270 rfl rfl ?_
          refine kt_iload_n C dX8_turn_271 rfl rfl ?_
          refine kt_callV (n := 2) C (w_X8_done  hV) (by decide) rfl rfl wd_475 wd_476 wd_477 wd_5 wd_478 hd_X8_done rfl ⟨Nat.le_of_ble_eq_true rfl, Nat.le_of_ble_eq_true rfl⟩ ⟨Nat.zero_le _, Nat.zero_le _⟩ rfl (Nat.le_of_ble_eq_true rfl) dX8_turn_272 (fun r m13 hE => ?_)
          obtain ⟨rfl, hV⟩ := hE
          refine kt_stv ?_
          exact kt_vret C ⟨rfl, hV⟩ dX8_turn_275
    · have hV := hV.2 c139
      refine kt_aload_n C dX8_turn_142 rfl rfl ?_
      refine kt_get (ci := 8) C 18 (by decide) rfl rfl inlX8 (by decide) wd_455 rfl dX8_turn_143 ?_
      refine kt_aload_n C dX8_turn_146 rfl rfl ?_
      refine kt_get (ci := 8) C 19 (by decide) rfl rfl inlX8 (by decide) wd_456 rfl dX8_turn_147 ?_
      refine kt_icmp_ge C 210 dX8_turn_150 rfl (fun c150 => ?_) (fun c150 => ?_)
      · have hV := hV.1 c150
        exact kt_vret C ⟨rfl, hV⟩ dX8_turn_210
      · have hV := hV.2 c150
        refine kt_aload_n C dX8_turn_153 rfl rfl ?_
        refine kt_get (ci := 8) C 17 (by decide) rfl rfl inlX8 (by decide) wd_135 rfl dX8_turn_154 ?_
        refine kt_aload_n C dX8_turn_157 rfl rfl ?_
        refine kt_get (ci := 8) C 18 (by decide) rfl rfl inlX8 (by decide) wd_455 rfl dX8_turn_158 ?_
        refine kt_iald C (by decide) rfl hV.1 dX8_turn_161 ?_
        have hV := hV.2
        refine kt_istore_n (lv' := [(2, .int _), (1, .int _), (0, .ref _)]) C dX8_turn_162 rfl (by decide) rfl ?_
        refine kt_aload_n C dX8_turn_163 rfl rfl ?_
        refine kt_dup C dX8_turn_164 rfl ?_
        refine kt_get (ci := 8) C 18 (by decide) rfl rfl inlX8 (by decide) wd_455 rfl dX8_turn_165 ?_
        refine kt_iconst (v := 1) C dX8_turn_168 (by decide) ?_
        refine kt_iadd C dX8_turn_169 ?_
        refine kt_put2 (ty := .int) C 18 rfl (by decide) wd_455 rfl (by decide +kernel) rfl rfl (Nat.le_of_ble_eq_true rfl) (ep2_18 _ _ _) dX8_turn_170 (fun m14 hm14 => ?_)
        have hV := hV m14 hm14
        refine kt_aload_n C dX8_turn_173 rfl rfl ?_
        refine kt_get (ci := 8) C 22 (by decide) rfl rfl inlX8 (by decide) wd_138 rfl dX8_turn_174 ?_
        refine kt_iload_n C dX8_turn_177 rfl rfl ?_
        refine kt_iload_n C dX8_turn_178 rfl rfl ?_
        refine kt_iast2 C rfl rfl hV.1 (ea_52 _ _ _ _) dX8_turn_179 (fun m15 hm15 => ?_)
        have hV := hV.2 m15 hm15
        refine kt_aload_n C dX8_turn_180 rfl rfl ?_
        refine kt_dup C dX8_turn_181 rfl ?_
        refine kt_get (ci := 8) C 32 (by decide) rfl rfl inlX8 (by decide) wd_449 rfl dX8_turn_182 ?_
        refine kt_iconst (v := 1) C dX8_turn_185 (by decide) ?_
        refine kt_iadd C dX8_turn_186 ?_
        refine kt_put2 (ty := .int) C 32 rfl (by decide) wd_449 rfl (by decide +kernel) rfl rfl (Nat.le_of_ble_eq_true rfl) (ep2_32 _ _ _) dX8_turn_187 (fun m16 hm16 => ?_)
        have hV := hV m16 hm16
        refine kt_aload_n C dX8_turn_190 rfl rfl ?_
        refine kt_iload_n C dX8_turn_191 rfl rfl ?_
        refine kt_callV (n := 1) C (w_X8_begin  hV) (by decide) rfl rfl wd_471 wd_472 wd_473 wd_5 wd_474 hd_X8_begin rfl ⟨Nat.le_of_ble_eq_true rfl, Nat.le_of_ble_eq_true rfl⟩ ⟨Nat.zero_le _, Nat.zero_le _⟩ rfl (Nat.le_of_ble_eq_true rfl) dX8_turn_192 (fun r m17 hE => ?_)
        obtain ⟨rfl, hV⟩ := hE
        refine kt_stv ?_
        refine kt_aload_n C dX8_turn_195 rfl rfl ?_
        refine kt_get (ci := 8) C 4 (by decide) rfl rfl inlX8 (by decide) wd_122 rfl dX8_turn_196 ?_
        refine kt_iload_n C dX8_turn_199 rfl rfl ?_
        refine kt_iald C (by decide) rfl hV.1 dX8_turn_200 ?_
        have hV := hV.2
        refine kt_if_ne C 210 dX8_turn_201 rfl (fun c201 => ?_) (fun c201 => ?_)
        · have hV := hV.1 c201
          exact kt_vret C ⟨rfl, hV⟩ dX8_turn_210
        · have hV := hV.2 c201
          refine kt_aload_n C dX8_turn_204 rfl rfl ?_
          refine kt_iload_n C dX8_turn_205 rfl rfl ?_
          refine kt_iload_n C dX8_turn_206 rfl rfl ?_
          refine kt_callV (n := 2) C (w_X8_done  hV) (by decide) rfl rfl wd_475 wd_476 wd_477 wd_5 wd_478 hd_X8_done rfl ⟨Nat.le_of_ble_eq_true rfl, Nat.le_of_ble_eq_true rfl⟩ ⟨Nat.zero_le _, Nat.zero_le _⟩ rfl (Nat.le_of_ble_eq_true rfl) dX8_turn_207 (fun r m18 hE => ?_)
          obtain ⟨rfl, hV⟩ := hE
          refine kt_stv ?_
          exact kt_vret C ⟨rfl, hV⟩ dX8_turn_210
  · have hV := hV.2 c53
    refine kt_aload_n C dX8_turn_56 rfl rfl ?_
    refine kt_get (ci := 8) C 23 (by decide) rfl rfl inlX8 (by decide) wd_465 rfl dX8_turn_57 ?_
    refine kt_aload_n C dX8_turn_60 rfl rfl ?_
    refine kt_get (ci := 8) C 21 (by decide) rfl rfl inlX8 (by decide) wd_137 rfl dX8_turn_61 ?_
    refine kt_iload_n C dX8_turn_64 rfl rfl ?_
    refine kt_iald C (by decide) rfl hV.1 dX8_turn_65 ?_
    have hV := hV.2
    refine kt_icmp_lt C 131 dX8_turn_66 rfl (fun c66 => ?_) (fun c66 => ?_)
    · have hV := hV.1 c66
      refine kt_aload_n C dX8_turn_131 rfl rfl ?_
      refine kt_get (ci := 8) C 22 (by decide) rfl rfl inlX8 (by decide) wd_138 rfl dX8_turn_132 ?_
      refine kt_iload_n C dX8_turn_135 rfl rfl ?_
      refine kt_iald C (by decide) rfl hV.1 dX8_turn_136 ?_
      have hV := hV.2
      refine kt_ldc (v := (-2000000)) C wd_139 dX8_turn_137 ?_
      refine kt_icmp_ne C 211 dX8_turn_139 rfl (fun c139 => ?_) (fun c139 => ?_)
      · have hV := hV.1 c139
        refine kt_aload_n C dX8_turn_211 rfl rfl ?_
        refine kt_get (ci := 8) C 22 (by decide) rfl rfl inlX8 (by decide) wd_138 rfl dX8_turn_212 ?_
        refine kt_iload_n C dX8_turn_215 rfl rfl ?_
        refine kt_iald C (by decide) rfl hV.1 dX8_turn_216 ?_
        have hV := hV.2
        refine kt_istore_n (lv' := [(2, .int _), (1, .int _), (0, .ref _)]) C dX8_turn_217 rfl (by decide) rfl ?_
        refine kt_aload_n C dX8_turn_218 rfl rfl ?_
        refine kt_get (ci := 8) C 14 (by decide) rfl rfl inlX8 (by decide) wd_132 rfl dX8_turn_219 ?_
        refine kt_iload_n C dX8_turn_222 rfl rfl ?_
        refine kt_aload_n C dX8_turn_223 rfl rfl ?_
        refine kt_iload_n C dX8_turn_224 rfl rfl ?_
        refine kt_aload_n C dX8_turn_225 rfl rfl ?_
        refine kt_get (ci := 8) C 8 (by decide) rfl rfl inlX8 (by decide) wd_126 rfl dX8_turn_226 ?_
        refine kt_iload_n C dX8_turn_229 rfl rfl ?_
        refine kt_iald C (by decide) rfl hV.1 dX8_turn_230 ?_
        have hV := hV.2
        refine kt_callV (n := 2) C (w_X8_work  hV) (by decide) rfl rfl wd_479 wd_480 wd_481 wd_5 wd_482 hd_X8_work rfl ⟨Nat.le_of_ble_eq_true rfl, Nat.le_of_ble_eq_true rfl⟩ ⟨Nat.zero_le _, Nat.zero_le _⟩ rfl (Nat.le_of_ble_eq_true rfl) dX8_turn_231 (fun r m19 hE => ?_)
        obtain ⟨v20, rfl, hV⟩ := hE
        refine kt_sti ?_
        refine kt_iast2 C rfl rfl hV.1 (ea_44 _ _ _ _) dX8_turn_234 (fun m21 hm21 => ?_)
        have hV := hV.2 m21 hm21
        refine kt_aload_n C dX8_turn_235 rfl rfl ?_
        refine kt_get (ci := 8) C 8 (by decide) rfl rfl inlX8 (by decide) wd_126 rfl dX8_turn_236 ?_
        refine kt_iload_n C dX8_turn_239 rfl rfl ?_
        refine kt_dup2 C dX8_turn_240 rfl rfl ?_
        refine kt_iald C (by decide) rfl hV.1 dX8_turn_241 ?_
        have hV := hV.2
        refine kt_iconst (v := 1) C dX8_turn_242 (by decide) ?_
        refine kt_iadd C dX8_turn_243 ?_
        refine kt_iast2 C rfl rfl hV.1 (ea_38 _ _ _ _) dX8_turn_244 (fun m22 hm22 => ?_)
        have hV := hV.2 m22 hm22
        refine kt_aload_n C dX8_turn_245 rfl rfl ?_
        refine kt_get (ci := 8) C 14 (by decide) rfl rfl inlX8 (by decide) wd_132 rfl dX8_turn_246 ?_
        refine kt_iload_n C dX8_turn_249 rfl rfl ?_
        refine kt_iald C (by decide) rfl hV.1 dX8_turn_250 ?_
        have hV := hV.2
        refine kt_if_gt C 269 dX8_turn_251 rfl (fun c251 => ?_) (fun c251 => ?_)
        · have hV := hV.1 c251
          refine kt_aload_n C dX8_turn_269 rfl rfl ?_
          refine kt_iload_n C dX8_turn_270 rfl rfl ?_
          refine kt_iload_n C dX8_turn_271 rfl rfl ?_
          refine kt_callV (n := 2) C (w_X8_done  hV) (by decide) rfl rfl wd_475 wd_476 wd_477 wd_5 wd_478 hd_X8_done rfl ⟨Nat.le_of_ble_eq_true rfl, Nat.le_of_ble_eq_true rfl⟩ ⟨Nat.zero_le _, Nat.zero_le _⟩ rfl (Nat.le_of_ble_eq_true rfl) dX8_turn_272 (fun r m23 hE => ?_)
          obtain ⟨rfl, hV⟩ := hE
          refine kt_stv ?_
          exact kt_vret C ⟨rfl, hV⟩ dX8_turn_275
        · have hV := hV.2 c251
          refine kt_aload_n C dX8_turn_254 rfl rfl ?_
          refine kt_get (ci := 8) C 8 (by decide) rfl rfl inlX8 (by decide) wd_126 rfl dX8_turn_255 ?_
          refine kt_iload_n C dX8_turn_258 rfl rfl ?_
          refine kt_iald C (by decide) rfl hV.1 dX8_turn_259 ?_
          have hV := hV.2
          refine kt_aload_n C dX8_turn_260 rfl rfl ?_
          refine kt_get (ci := 8) C 4 (by decide) rfl rfl inlX8 (by decide) wd_122 rfl dX8_turn_261 ?_
          refine kt_iload_n C dX8_turn_264 rfl rfl ?_
          refine kt_iald C (by decide) rfl hV.1 dX8_turn_265 ?_
          have hV := hV.2
          refine kt_icmp_ne C 275 dX8_turn_266 rfl (fun c266 => ?_) (fun c266 => ?_)
          · have hV := hV.1 c266
            exact kt_vret C ⟨rfl, hV⟩ dX8_turn_275
          · have hV := hV.2 c266
            refine kt_aload_n C dX8_turn_269 rfl rfl ?_
            refine kt_iload_n C dX8_turn_270 rfl rfl ?_
            refine kt_iload_n C dX8_turn_271 rfl rfl ?_
            refine kt_callV (n := 2) C (w_X8_done  hV) (by decide) rfl rfl wd_475 wd_476 wd_477 wd_5 wd_478 hd_X8_done rfl ⟨Nat.le_of_ble_eq_true rfl, Nat.le_of_ble_eq_true rfl⟩ ⟨Nat.zero_le _, Nat.zero_le _⟩ rfl (Nat.le_of_ble_eq_true rfl) dX8_turn_272 (fun r m24 hE => ?_)
            obtain ⟨rfl, hV⟩ := hE
            refine kt_stv ?_
            exact kt_vret C ⟨rfl, hV⟩ dX8_turn_275
      · have hV := hV.2 c139
        refine kt_aload_n C dX8_turn_142 rfl rfl ?_
        refine kt_get (ci := 8) C 18 (by decide) rfl rfl inlX8 (by decide) wd_455 rfl dX8_turn_143 ?_
        refine kt_aload_n C dX8_turn_146 rfl rfl ?_
        refine kt_get (ci := 8) C 19 (by decide) rfl rfl inlX8 (by decide) wd_456 rfl dX8_turn_147 ?_
        refine kt_icmp_ge C 210 dX8_turn_150 rfl (fun c150 => ?_) (fun c150 => ?_)
        · have hV := hV.1 c150
          exact kt_vret C ⟨rfl, hV⟩ dX8_turn_210
        · have hV := hV.2 c150
          refine kt_aload_n C dX8_turn_153 rfl rfl ?_
          refine kt_get (ci := 8) C 17 (by decide) rfl rfl inlX8 (by decide) wd_135 rfl dX8_turn_154 ?_
          refine kt_aload_n C dX8_turn_157 rfl rfl ?_
          refine kt_get (ci := 8) C 18 (by decide) rfl rfl inlX8 (by decide) wd_455 rfl dX8_turn_158 ?_
          refine kt_iald C (by decide) rfl hV.1 dX8_turn_161 ?_
          have hV := hV.2
          refine kt_istore_n (lv' := [(2, .int _), (1, .int _), (0, .ref _)]) C dX8_turn_162 rfl (by decide) rfl ?_
          refine kt_aload_n C dX8_turn_163 rfl rfl ?_
          refine kt_dup C dX8_turn_164 rfl ?_
          refine kt_get (ci := 8) C 18 (by decide) rfl rfl inlX8 (by decide) wd_455 rfl dX8_turn_165 ?_
          refine kt_iconst (v := 1) C dX8_turn_168 (by decide) ?_
          refine kt_iadd C dX8_turn_169 ?_
          refine kt_put2 (ty := .int) C 18 rfl (by decide) wd_455 rfl (by decide +kernel) rfl rfl (Nat.le_of_ble_eq_true rfl) (ep2_18 _ _ _) dX8_turn_170 (fun m25 hm25 => ?_)
          have hV := hV m25 hm25
          refine kt_aload_n C dX8_turn_173 rfl rfl ?_
          refine kt_get (ci := 8) C 22 (by decide) rfl rfl inlX8 (by decide) wd_138 rfl dX8_turn_174 ?_
          refine kt_iload_n C dX8_turn_177 rfl rfl ?_
          refine kt_iload_n C dX8_turn_178 rfl rfl ?_
          refine kt_iast2 C rfl rfl hV.1 (ea_52 _ _ _ _) dX8_turn_179 (fun m26 hm26 => ?_)
          have hV := hV.2 m26 hm26
          refine kt_aload_n C dX8_turn_180 rfl rfl ?_
          refine kt_dup C dX8_turn_181 rfl ?_
          refine kt_get (ci := 8) C 32 (by decide) rfl rfl inlX8 (by decide) wd_449 rfl dX8_turn_182 ?_
          refine kt_iconst (v := 1) C dX8_turn_185 (by decide) ?_
          refine kt_iadd C dX8_turn_186 ?_
          refine kt_put2 (ty := .int) C 32 rfl (by decide) wd_449 rfl (by decide +kernel) rfl rfl (Nat.le_of_ble_eq_true rfl) (ep2_32 _ _ _) dX8_turn_187 (fun m27 hm27 => ?_)
          have hV := hV m27 hm27
          refine kt_aload_n C dX8_turn_190 rfl rfl ?_
          refine kt_iload_n C dX8_turn_191 rfl rfl ?_
          refine kt_callV (n := 1) C (w_X8_begin  hV) (by decide) rfl rfl wd_471 wd_472 wd_473 wd_5 wd_474 hd_X8_begin rfl ⟨Nat.le_of_ble_eq_true rfl, Nat.le_of_ble_eq_true rfl⟩ ⟨Nat.zero_le _, Nat.zero_le _⟩ rfl (Nat.le_of_ble_eq_true rfl) dX8_turn_192 (fun r m28 hE => ?_)
          obtain ⟨rfl, hV⟩ := hE
          refine kt_stv ?_
          refine kt_aload_n C dX8_turn_195 rfl rfl ?_
          refine kt_get (ci := 8) C 4 (by decide) rfl rfl inlX8 (by decide) wd_122 rfl dX8_turn_196 ?_
          refine kt_iload_n C dX8_turn_199 rfl rfl ?_
          refine kt_iald C (by decide) rfl hV.1 dX8_turn_200 ?_
          have hV := hV.2
          refine kt_if_ne C 210 dX8_turn_201 rfl (fun c201 => ?_) (fun c201 => ?_)
          · have hV := hV.1 c201
            exact kt_vret C ⟨rfl, hV⟩ dX8_turn_210
          · have hV := hV.2 c201
            refine kt_aload_n C dX8_turn_204 rfl rfl ?_
            refine kt_iload_n C dX8_turn_205 rfl rfl ?_
            refine kt_iload_n C dX8_turn_206 rfl rfl ?_
            refine kt_callV (n := 2) C (w_X8_done  hV) (by decide) rfl rfl wd_475 wd_476 wd_477 wd_5 wd_478 hd_X8_done rfl ⟨Nat.le_of_ble_eq_true rfl, Nat.le_of_ble_eq_true rfl⟩ ⟨Nat.zero_le _, Nat.zero_le _⟩ rfl (Nat.le_of_ble_eq_true rfl) dX8_turn_207 (fun r m29 hE => ?_)
            obtain ⟨rfl, hV⟩ := hE
            refine kt_stv ?_
            exact kt_vret C ⟨rfl, hV⟩ dX8_turn_210
    · have hV := hV.2 c66
      refine kt_aload_n C dX8_turn_69 rfl rfl ?_
      refine kt_get (ci := 8) C 20 (by decide) rfl rfl inlX8 (by decide) wd_136 rfl dX8_turn_70 ?_
      refine kt_iload_n C dX8_turn_73 rfl rfl ?_
      refine kt_iconst (v := 0) C dX8_turn_74 (by decide) ?_
      refine kt_zast2 (v' := 0) C rfl rfl hV.1 rfl (ea_50 _ _ _ _) dX8_turn_75 (fun m30 hm30 => ?_)
      have hV := hV.2 m30 hm30
      refine kt_aload_n C dX8_turn_76 rfl rfl ?_
      refine kt_get (ci := 8) C 22 (by decide) rfl rfl inlX8 (by decide) wd_138 rfl dX8_turn_77 ?_
      refine kt_iload_n C dX8_turn_80 rfl rfl ?_
      refine kt_iald C (by decide) rfl hV.1 dX8_turn_81 ?_
      have hV := hV.2
      refine kt_ldc (v := (-2000000)) C wd_139 dX8_turn_82 ?_
      refine kt_icmp_eq C 130 dX8_turn_84 rfl (fun c84 => ?_) (fun c84 => ?_)
      · have hV := hV.1 c84
        exact kt_vret C ⟨rfl, hV⟩ dX8_turn_130
      · have hV := hV.2 c84
        refine kt_aload_n C dX8_turn_87 rfl rfl ?_
        refine kt_dup C dX8_turn_88 rfl ?_
        refine kt_get (ci := 8) C 18 (by decide) rfl rfl inlX8 (by decide) wd_455 rfl dX8_turn_89 ?_
        refine kt_iconst (v := 1) C dX8_turn_92 (by decide) ?_
        refine kt_isub C dX8_turn_93 ?_
        refine kt_put2 (ty := .int) C 18 rfl (by decide) wd_455 rfl (by decide +kernel) rfl rfl (Nat.le_of_ble_eq_true rfl) (ep2_18 _ _ _) dX8_turn_94 (fun m31 hm31 => ?_)
        have hV := hV m31 hm31
        refine kt_aload_n C dX8_turn_97 rfl rfl ?_
        refine kt_get (ci := 8) C 17 (by decide) rfl rfl inlX8 (by decide) wd_135 rfl dX8_turn_98 ?_
        refine kt_aload_n C dX8_turn_101 rfl rfl ?_
        refine kt_get (ci := 8) C 18 (by decide) rfl rfl inlX8 (by decide) wd_455 rfl dX8_turn_102 ?_
        refine kt_aload_n C dX8_turn_105 rfl rfl ?_
        refine kt_get (ci := 8) C 22 (by decide) rfl rfl inlX8 (by decide) wd_138 rfl dX8_turn_106 ?_
        refine kt_iload_n C dX8_turn_109 rfl rfl ?_
        refine kt_iald C (by decide) rfl hV.1 dX8_turn_110 ?_
        have hV := hV.2
        refine kt_iast2 C rfl rfl hV.1 (ea_47 _ _ _ _) dX8_turn_111 (fun m32 hm32 => ?_)
        have hV := hV.2 m32 hm32
        refine kt_aload_n C dX8_turn_112 rfl rfl ?_
        refine kt_get (ci := 8) C 22 (by decide) rfl rfl inlX8 (by decide) wd_138 rfl dX8_turn_113 ?_
        refine kt_iload_n C dX8_turn_116 rfl rfl ?_
        refine kt_ldc (v := (-2000000)) C wd_139 dX8_turn_117 ?_
        refine kt_iast2 C rfl rfl hV.1 (ea_52 _ _ _ _) dX8_turn_119 (fun m33 hm33 => ?_)
        have hV := hV.2 m33 hm33
        refine kt_aload_n C dX8_turn_120 rfl rfl ?_
        refine kt_dup C dX8_turn_121 rfl ?_
        refine kt_get (ci := 8) C 33 (by decide) rfl rfl inlX8 (by decide) wd_450 rfl dX8_turn_122 ?_
        refine kt_iconst (v := 1) C dX8_turn_125 (by decide) ?_
        refine kt_iadd C dX8_turn_126 ?_
        refine kt_put2 (ty := .int) C 33 rfl (by decide) wd_450 rfl (by decide +kernel) rfl rfl (Nat.le_of_ble_eq_true rfl) (ep2_33 _ _ _) dX8_turn_127 (fun m34 hm34 => ?_)
        have hV := hV m34 hm34
        exact kt_vret C ⟨rfl, hV⟩ dX8_turn_130
theorem hd_X8_areDone : yX8_areDone.cls = RX8 ∧ yX8_areDone.cls ≠ "java/lang/invoke/MethodHandle" ∧ yX8_areDone.cls ≠ "java/lang/invoke/VarHandle" ∧ (parseMethodDescriptor yX8_areDone.desc).map (fun d => d.parameters.length) = some 0 := by decide +kernel
def V_X8_areDone_2 (n : Nat) (y1 : Int32) (m : MW) (K : Int32 → MW → Prop) : Prop := match n with
  | 0 => False
  | n + 1 => (((m.2 22 2) ≤ y1 → (K 1 m)) ∧ (¬ (m.2 22 2) ≤ y1 → (vp_in y1 10 ∧ ((¬ (m.2 46 (y1).toNatClampNeg) = 0 → (V_X8_areDone_2 n  ((y1 + 1)) m K)) ∧ ((m.2 46 (y1).toNatClampNeg) = 0 → (K 0 m))))))
def V_X8_areDone (m : MW) (K : Int32 → MW → Prop) : Prop := (∃ k : Nat, V_X8_areDone_2 k  (0) m K)
set_option maxHeartbeats 4000000 in
set_option maxRecDepth 100000 in
theorem w_X8_areDone_2 {p : Program} {l : Launch} {e : Env} {s : State} {mi : MethodId} {args : Array Value} {below : List Frame} {meth : Method} {c : Code} {g : GG} {K : Int32 → MW → Prop} (C : Cx p s mi args meth c cX8_areDone RX8 2 (some .boolean) g) (n : Nat) : ∀ {y1 : Int32} {m : MW}, V_X8_areDone_2 n  y1 m K → TT p l e { frames := 0, cells := 0, slots := 0, locals := 0 } s mi args below meth c 0 0 (MQ below (QE g (Ei K)) args s 0 0 (gA g)) g 2 m 2 [(0, .ref (gad g 22 0)), (1, .int (y1))] [] := by
  induction n with
  | zero => intros; rename_i hV; exact absurd hV (by simp [V_X8_areDone_2])
  | succ n ih =>
    intro y1 m hV
    unfold V_X8_areDone_2 at hV
    refine kt_iload_n C dX8_areDone_2 rfl rfl ?_
    refine kt_aload_n C dX8_areDone_3 rfl rfl ?_
    refine kt_get (ci := 8) C 2 (by decide) rfl rfl inlX8 (by decide) wd_159 rfl dX8_areDone_4 ?_
    refine kt_icmp_ge C 27 dX8_areDone_7 rfl (fun c7 => ?_) (fun c7 => ?_)
    · have hV := hV.1 c7
      refine kt_iconst (v := 1) C dX8_areDone_27 (by decide) ?_
      exact kt_zret C rfl ⟨_, rfl, hV⟩ dX8_areDone_28
    · have hV := hV.2 c7
      refine kt_aload_n C dX8_areDone_10 rfl rfl ?_
      refine kt_get (ci := 8) C 16 (by decide) rfl rfl inlX8 (by decide) wd_134 rfl dX8_areDone_11 ?_
      refine kt_iload_n C dX8_areDone_14 rfl rfl ?_
      refine kt_zald C (by decide) rfl hV.1 dX8_areDone_15 ?_
      have hV := hV.2
      refine kt_if_ne C 21 dX8_areDone_16 rfl (fun c16 => ?_) (fun c16 => ?_)
      · have hV := hV.1 c16
        refine kt_iinc (v := _ + 1) (lv' := [(1, .int _), (0, .ref _)]) C dX8_areDone_21 rfl rfl (by decide) rfl ?_
        refine kt_goto C 2 dX8_areDone_24 rfl ?_
        refine kt_pick (lv' := [(0, .ref _), (1, .int _)]) [1, 0] rfl ?_
        exact ih  hV
      · have hV := hV.2 c16
        refine kt_iconst (v := 0) C dX8_areDone_19 (by decide) ?_
        exact kt_zret C rfl ⟨_, rfl, hV⟩ dX8_areDone_20
set_option maxHeartbeats 4000000 in
set_option maxRecDepth 100000 in
theorem w_X8_areDone {l : Launch} {g : GG} {m : MW} {K : Int32 → MW → Prop} (hV : V_X8_areDone   m K) : Ct l yX8_areDone cX8_areDone 2 (some .boolean) 0 0 [.ref (gad g 22 0)] g m (Ei K) := by
  refine ct_intro RX8 (by decide) rfl (Nat.le_of_ble_eq_true rfl) ?_
  intro p e s mi below meth c C
  unfold V_X8_areDone at hV
  refine kt_iconst (v := 0) C dX8_areDone_0 (by decide) ?_
  refine kt_istore_n (lv' := [(1, .int _), (0, .ref _)]) C dX8_areDone_1 rfl (by decide) rfl ?_
  obtain ⟨k, hV⟩ := hV
  refine kt_pick (lv' := [(0, .ref _), (1, .int _)]) [1, 0] rfl ?_
  exact w_X8_areDone_2 C  k hV
theorem hd_X8_round : yX8_round.cls = RX8 ∧ yX8_round.cls ≠ "java/lang/invoke/MethodHandle" ∧ yX8_round.cls ≠ "java/lang/invoke/VarHandle" ∧ (parseMethodDescriptor yX8_round.desc).map (fun d => d.parameters.length) = some 0 := by decide +kernel
def V_X8_round_91 (n : Nat) (y1 : Int32) (m : MW) (K : Int32 → MW → Prop) : Prop := match n with
  | 0 => False
  | n + 1 => ((¬ y1 = 0 → ((y1 = 0 ∨ y1 = 1) ∧ K y1 m)) ∧ (y1 = 0 → (V_X8_workersLeft   m (fun v6 m5 => ((v6 ≤ 0 → ((y1 = 0 ∨ y1 = 1) ∧ K y1 m5)) ∧ (¬ v6 ≤ 0 → (V_X8_turn   m5 (fun m7 => (V_X8_areDone   m7 (fun v9 m8 => (V_X8_round_91 n  (v9) m8 K)))))))))))
def V_X8_round_67 (n : Nat) (y1 : Int32) (m : MW) (K : Int32 → MW → Prop) : Prop := match n with
  | 0 => False
  | n + 1 => ((4 ≤ y1 → (V_X8_areDone   m (fun v4 m3 => (∃ k : Nat, V_X8_round_91 k  (v4) m3 K)))) ∧ (¬ 4 ≤ y1 → (vp_in y1 4 ∧ ∀ m10 : MW, m10 = (m.1, up2 m.2 52 (y1).toNatClampNeg (-2000000)) → (V_X8_round_67 n  ((y1 + 1)) m10 K))))
def V_X8_round_16 (n : Nat) (y1 : Int32) (m : MW) (K : Int32 → MW → Prop) : Prop := match n with
  | 0 => False
  | n + 1 => (((m.2 22 2) ≤ y1 → (∃ k : Nat, V_X8_round_67 k  (0) m K)) ∧ (¬ (m.2 22 2) ≤ y1 → (vp_in (m.2 22 19) 400 ∧ ∀ m11 : MW, m11 = (m.1, up2 m.2 47 ((m.2 22 19)).toNatClampNeg y1) → (∀ m12 : MW, m12 = (m11.1, up2 m11.2 22 19 ((m11.2 22 19) + 1)) → (vp_in y1 10 ∧ ∀ m13 : MW, m13 = (m12.1, up2 m12.2 46 (y1).toNatClampNeg 0) → (vp_in y1 10 ∧ ∀ m14 : MW, m14 = (m13.1, up2 m13.2 45 (y1).toNatClampNeg (-2000000)) → (V_X8_round_16 n  ((y1 + 1)) m14 K)))))))
def V_X8_round (m : MW) (K : Int32 → MW → Prop) : Prop := (∀ m1 : MW, m1 = (m.1, up2 m.2 22 18 200) → (∀ m2 : MW, m2 = (m1.1, up2 m1.2 22 19 200) → (∃ k : Nat, V_X8_round_16 k  (0) m2 K)))
set_option maxHeartbeats 4000000 in
set_option maxRecDepth 100000 in
theorem w_X8_round_91 {p : Program} {l : Launch} {e : Env} {s : State} {mi : MethodId} {args : Array Value} {below : List Frame} {meth : Method} {c : Code} {g : GG} {K : Int32 → MW → Prop} (C : Cx p s mi args meth c cX8_round RX8 2 (some .boolean) g) (n : Nat) : ∀ {y1 : Int32} {m : MW}, V_X8_round_91 n  y1 m K → TT p l e { frames := 4, cells := 0, slots := 0, locals := 100 } s mi args below meth c 0 0 (MQ below (QE g (Ei K)) args s 0 0 (gA g)) g 2 m 91 [(0, .ref (gad g 22 0)), (1, .int (y1))] [] := by
  induction n with
  | zero => intros; rename_i hV; exact absurd hV (by simp [V_X8_round_91])
  | succ n ih =>
    intro y1 m hV
    unfold V_X8_round_91 at hV
    refine kt_iload_n C dX8_round_91 rfl rfl ?_
    refine kt_if_ne C 114 dX8_round_92 rfl (fun c92 => ?_) (fun c92 => ?_)
    · have hV := hV.1 c92
      refine kt_iload_n C dX8_round_114 rfl rfl ?_
      exact kt_bret C hV.1 ⟨_, rfl, hV.2⟩ dX8_round_115
    · have hV := hV.2 c92
      refine kt_aload_n C dX8_round_95 rfl rfl ?_
      refine kt_callV (n := 0) C (w_X8_workersLeft  hV) (by decide) rfl rfl wd_231 wd_232 wd_233 wd_5 wd_234 hd_X8_workersLeft rfl ⟨Nat.le_of_ble_eq_true rfl, Nat.le_of_ble_eq_true rfl⟩ ⟨Nat.zero_le _, Nat.zero_le _⟩ rfl (Nat.le_of_ble_eq_true rfl) dX8_round_96 (fun r m5 hE => ?_)
      obtain ⟨v6, rfl, hV⟩ := hE
      refine kt_sti ?_
      refine kt_if_le C 114 dX8_round_99 rfl (fun c99 => ?_) (fun c99 => ?_)
      · have hV := hV.1 c99
        refine kt_iload_n C dX8_round_114 rfl rfl ?_
        exact kt_bret C hV.1 ⟨_, rfl, hV.2⟩ dX8_round_115
      · have hV := hV.2 c99
        refine kt_aload_n C dX8_round_102 rfl rfl ?_
        refine kt_callV (n := 0) C (w_X8_turn  hV) (by decide) rfl rfl wd_461 wd_462 wd_463 wd_5 wd_464 hd_X8_turn rfl ⟨Nat.le_of_ble_eq_true rfl, Nat.le_of_ble_eq_true rfl⟩ ⟨Nat.zero_le _, Nat.zero_le _⟩ rfl (Nat.le_of_ble_eq_true rfl) dX8_round_103 (fun r m7 hE => ?_)
        obtain ⟨rfl, hV⟩ := hE
        refine kt_stv ?_
        refine kt_aload_n C dX8_round_106 rfl rfl ?_
        refine kt_callV (n := 0) C (w_X8_areDone  hV) (by decide) rfl rfl wd_457 wd_458 wd_459 wd_5 wd_460 hd_X8_areDone rfl ⟨Nat.le_of_ble_eq_true rfl, Nat.le_of_ble_eq_true rfl⟩ ⟨Nat.zero_le _, Nat.zero_le _⟩ rfl (Nat.le_of_ble_eq_true rfl) dX8_round_107 (fun r m8 hE => ?_)
        obtain ⟨v9, rfl, hV⟩ := hE
        refine kt_sti ?_
        refine kt_istore_n (lv' := [(1, .int _), (0, .ref _)]) C dX8_round_110 rfl (by decide) rfl ?_
        refine kt_goto C 91 dX8_round_111 rfl ?_
        refine kt_pick (lv' := [(0, .ref _), (1, .int _)]) [1, 0] rfl ?_
        exact ih  hV
set_option maxHeartbeats 4000000 in
set_option maxRecDepth 100000 in
theorem w_X8_round_67 {p : Program} {l : Launch} {e : Env} {s : State} {mi : MethodId} {args : Array Value} {below : List Frame} {meth : Method} {c : Code} {g : GG} {K : Int32 → MW → Prop} (C : Cx p s mi args meth c cX8_round RX8 2 (some .boolean) g) (n : Nat) : ∀ {y1 : Int32} {m : MW}, V_X8_round_67 n  y1 m K → TT p l e { frames := 4, cells := 0, slots := 0, locals := 100 } s mi args below meth c 0 0 (MQ below (QE g (Ei K)) args s 0 0 (gA g)) g 2 m 67 [(0, .ref (gad g 22 0)), (1, .int (y1))] [] := by
  induction n with
  | zero => intros; rename_i hV; exact absurd hV (by simp [V_X8_round_67])
  | succ n ih =>
    intro y1 m hV
    unfold V_X8_round_67 at hV
    refine kt_iload_n C dX8_round_67 rfl rfl ?_
    refine kt_iconst (v := 4) C dX8_round_68 (by decide) ?_
    refine kt_icmp_ge C 86 dX8_round_69 rfl (fun c69 => ?_) (fun c69 => ?_)
    · have hV := hV.1 c69
      refine kt_aload_n C dX8_round_86 rfl rfl ?_
      refine kt_callV (n := 0) C (w_X8_areDone  hV) (by decide) rfl rfl wd_457 wd_458 wd_459 wd_5 wd_460 hd_X8_areDone rfl ⟨Nat.le_of_ble_eq_true rfl, Nat.le_of_ble_eq_true rfl⟩ ⟨Nat.zero_le _, Nat.zero_le _⟩ rfl (Nat.le_of_ble_eq_true rfl) dX8_round_87 (fun r m3 hE => ?_)
      obtain ⟨v4, rfl, hV⟩ := hE
      refine kt_sti ?_
      refine kt_istore_n (lv' := [(1, .int _), (0, .ref _)]) C dX8_round_90 rfl (by decide) rfl ?_
      obtain ⟨k, hV⟩ := hV
      refine kt_pick (lv' := [(0, .ref _), (1, .int _)]) [1, 0] rfl ?_
      exact w_X8_round_91 C  k hV
    · have hV := hV.2 c69
      refine kt_aload_n C dX8_round_72 rfl rfl ?_
      refine kt_get (ci := 8) C 22 (by decide) rfl rfl inlX8 (by decide) wd_138 rfl dX8_round_73 ?_
      refine kt_iload_n C dX8_round_76 rfl rfl ?_
      refine kt_ldc (v := (-2000000)) C wd_139 dX8_round_77 ?_
      refine kt_iast2 C rfl rfl hV.1 (ea_52 _ _ _ _) dX8_round_79 (fun m10 hm10 => ?_)
      have hV := hV.2 m10 hm10
      refine kt_iinc (v := _ + 1) (lv' := [(1, .int _), (0, .ref _)]) C dX8_round_80 rfl rfl (by decide) rfl ?_
      refine kt_goto C 67 dX8_round_83 rfl ?_
      refine kt_pick (lv' := [(0, .ref _), (1, .int _)]) [1, 0] rfl ?_
      exact ih  hV
set_option maxHeartbeats 4000000 in
set_option maxRecDepth 100000 in
theorem w_X8_round_16 {p : Program} {l : Launch} {e : Env} {s : State} {mi : MethodId} {args : Array Value} {below : List Frame} {meth : Method} {c : Code} {g : GG} {K : Int32 → MW → Prop} (C : Cx p s mi args meth c cX8_round RX8 2 (some .boolean) g) (n : Nat) : ∀ {y1 : Int32} {m : MW}, V_X8_round_16 n  y1 m K → TT p l e { frames := 4, cells := 0, slots := 0, locals := 100 } s mi args below meth c 0 0 (MQ below (QE g (Ei K)) args s 0 0 (gA g)) g 2 m 16 [(0, .ref (gad g 22 0)), (1, .int (y1))] [] := by
  induction n with
  | zero => intros; rename_i hV; exact absurd hV (by simp [V_X8_round_16])
  | succ n ih =>
    intro y1 m hV
    unfold V_X8_round_16 at hV
    refine kt_iload_n C dX8_round_16 rfl rfl ?_
    refine kt_aload_n C dX8_round_17 rfl rfl ?_
    refine kt_get (ci := 8) C 2 (by decide) rfl rfl inlX8 (by decide) wd_159 rfl dX8_round_18 ?_
    refine kt_icmp_ge C 65 dX8_round_21 rfl (fun c21 => ?_) (fun c21 => ?_)
    · have hV := hV.1 c21
      refine kt_iconst (v := 0) C dX8_round_65 (by decide) ?_
      refine kt_istore_n (lv' := [(1, .int _), (0, .ref _)]) C dX8_round_66 rfl (by decide) rfl ?_
      obtain ⟨k, hV⟩ := hV
      refine kt_pick (lv' := [(0, .ref _), (1, .int _)]) [1, 0] rfl ?_
      exact w_X8_round_67 C  k hV
    · have hV := hV.2 c21
      refine kt_aload_n C dX8_round_24 rfl rfl ?_
      refine kt_get (ci := 8) C 17 (by decide) rfl rfl inlX8 (by decide) wd_135 rfl dX8_round_25 ?_
      refine kt_aload_n C dX8_round_28 rfl rfl ?_
      refine kt_get (ci := 8) C 19 (by decide) rfl rfl inlX8 (by decide) wd_456 rfl dX8_round_29 ?_
      refine kt_iload_n C dX8_round_32 rfl rfl ?_
      refine kt_iast2 C rfl rfl hV.1 (ea_47 _ _ _ _) dX8_round_33 (fun m11 hm11 => ?_)
      have hV := hV.2 m11 hm11
      refine kt_aload_n C dX8_round_34 rfl rfl ?_
      refine kt_dup C dX8_round_35 rfl ?_
      refine kt_get (ci := 8) C 19 (by decide) rfl rfl inlX8 (by decide) wd_456 rfl dX8_round_36 ?_
      refine kt_iconst (v := 1) C dX8_round_39 (by decide) ?_
      refine kt_iadd C dX8_round_40 ?_
      refine kt_put2 (ty := .int) C 19 rfl (by decide) wd_456 rfl (by decide +kernel) rfl rfl (Nat.le_of_ble_eq_true rfl) (ep2_19 _ _ _) dX8_round_41 (fun m12 hm12 => ?_)
      have hV := hV m12 hm12
      refine kt_aload_n C dX8_round_44 rfl rfl ?_
      refine kt_get (ci := 8) C 16 (by decide) rfl rfl inlX8 (by decide) wd_134 rfl dX8_round_45 ?_
      refine kt_iload_n C dX8_round_48 rfl rfl ?_
      refine kt_iconst (v := 0) C dX8_round_49 (by decide) ?_
      refine kt_zast2 (v' := 0) C rfl rfl hV.1 rfl (ea_46 _ _ _ _) dX8_round_50 (fun m13 hm13 => ?_)
      have hV := hV.2 m13 hm13
      refine kt_aload_n C dX8_round_51 rfl rfl ?_
      refine kt_get (ci := 8) C 15 (by decide) rfl rfl inlX8 (by decide) wd_133 rfl dX8_round_52 ?_
      refine kt_iload_n C dX8_round_55 rfl rfl ?_
      refine kt_ldc (v := (-2000000)) C wd_139 dX8_round_56 ?_
      refine kt_iast2 C rfl rfl hV.1 (ea_45 _ _ _ _) dX8_round_58 (fun m14 hm14 => ?_)
      have hV := hV.2 m14 hm14
      refine kt_iinc (v := _ + 1) (lv' := [(1, .int _), (0, .ref _)]) C dX8_round_59 rfl rfl (by decide) rfl ?_
      refine kt_goto C 16 dX8_round_62 rfl ?_
      refine kt_pick (lv' := [(0, .ref _), (1, .int _)]) [1, 0] rfl ?_
      exact ih  hV
set_option maxHeartbeats 4000000 in
set_option maxRecDepth 100000 in
theorem w_X8_round {l : Launch} {g : GG} {m : MW} {K : Int32 → MW → Prop} (hV : V_X8_round   m K) : Ct l yX8_round cX8_round 2 (some .boolean) 4 100 [.ref (gad g 22 0)] g m (Ei K) := by
  refine ct_intro RX8 (by decide) rfl (Nat.le_of_ble_eq_true rfl) ?_
  intro p e s mi below meth c C
  unfold V_X8_round at hV
  refine kt_aload_n C dX8_round_0 rfl rfl ?_
  refine kt_sipush (v := 200) C dX8_round_1 (by decide) ?_
  refine kt_put2 (ty := .int) C 18 rfl (by decide) wd_455 rfl (by decide +kernel) rfl rfl (Nat.le_of_ble_eq_true rfl) (ep2_18 _ _ _) dX8_round_4 (fun m1 hm1 => ?_)
  have hV := hV m1 hm1
  refine kt_aload_n C dX8_round_7 rfl rfl ?_
  refine kt_sipush (v := 200) C dX8_round_8 (by decide) ?_
  refine kt_put2 (ty := .int) C 19 rfl (by decide) wd_456 rfl (by decide +kernel) rfl rfl (Nat.le_of_ble_eq_true rfl) (ep2_19 _ _ _) dX8_round_11 (fun m2 hm2 => ?_)
  have hV := hV m2 hm2
  refine kt_iconst (v := 0) C dX8_round_14 (by decide) ?_
  refine kt_istore_n (lv' := [(1, .int _), (0, .ref _)]) C dX8_round_15 rfl (by decide) rfl ?_
  obtain ⟨k, hV⟩ := hV
  refine kt_pick (lv' := [(0, .ref _), (1, .int _)]) [1, 0] rfl ?_
  exact w_X8_round_16 C  k hV
theorem hd_X8_bound : yX8_bound.cls = RX8 ∧ yX8_bound.cls ≠ "java/lang/invoke/MethodHandle" ∧ yX8_bound.cls ≠ "java/lang/invoke/VarHandle" ∧ (parseMethodDescriptor yX8_bound.desc).map (fun d => d.parameters.length) = some 1 := by decide +kernel
def V_X8_bound (x0 : Int32) (m : MW) (K : Int32 → MW → Prop) : Prop := ((¬ x0 = 0 → ((¬ x0 = 1 → ((¬ x0 = 2 → ((¬ x0 = 3 → ((¬ x0 = 4 → ((¬ x0 = 5 → ((¬ x0 = 6 → ((¬ x0 = 7 → (K (1000000) m)) ∧ (x0 = 7 → (K 1000 m)))) ∧ (x0 = 6 → (K 100 m)))) ∧ (x0 = 5 → (K 10 m)))) ∧ (x0 = 4 → (K 0 m)))) ∧ (x0 = 3 → (K (-10) m)))) ∧ (x0 = 2 → (K (-100) m)))) ∧ (x0 = 1 → (K (-1000) m)))) ∧ (x0 = 0 → (K (-1000000) m)))
set_option maxHeartbeats 4000000 in
set_option maxRecDepth 100000 in
theorem w_X8_bound {l : Launch} {g : GG} {x0 : Int32} {m : MW} {K : Int32 → MW → Prop} (hV : V_X8_bound  x0 m K) : Ct l yX8_bound cX8_bound 1 (some .int) 0 0 [.int x0] g m (Ei K) := by
  refine ct_intro RX8 (by decide) rfl (Nat.le_of_ble_eq_true rfl) ?_
  intro p e s mi below meth c C
  unfold V_X8_bound at hV
  refine kt_iload_n C dX8_bound_0 rfl rfl ?_
  refine kt_if_ne C 9 dX8_bound_1 rfl (fun c1 => ?_) (fun c1 => ?_)
  · have hV := hV.1 c1
    refine kt_iload_n C dX8_bound_9 rfl rfl ?_
    refine kt_iconst (v := 1) C dX8_bound_10 (by decide) ?_
    refine kt_icmp_ne C 20 dX8_bound_11 rfl (fun c11 => ?_) (fun c11 => ?_)
    · have hV := hV.1 c11
      refine kt_iload_n C dX8_bound_20 rfl rfl ?_
      refine kt_iconst (v := 2) C dX8_bound_21 (by decide) ?_
      refine kt_icmp_ne C 30 dX8_bound_22 rfl (fun c22 => ?_) (fun c22 => ?_)
      · have hV := hV.1 c22
        refine kt_iload_n C dX8_bound_30 rfl rfl ?_
        refine kt_iconst (v := 3) C dX8_bound_31 (by decide) ?_
        refine kt_icmp_ne C 40 dX8_bound_32 rfl (fun c32 => ?_) (fun c32 => ?_)
        · have hV := hV.1 c32
          refine kt_iload_n C dX8_bound_40 rfl rfl ?_
          refine kt_iconst (v := 4) C dX8_bound_41 (by decide) ?_
          refine kt_icmp_ne C 49 dX8_bound_42 rfl (fun c42 => ?_) (fun c42 => ?_)
          · have hV := hV.1 c42
            refine kt_iload_n C dX8_bound_49 rfl rfl ?_
            refine kt_iconst (v := 5) C dX8_bound_50 (by decide) ?_
            refine kt_icmp_ne C 59 dX8_bound_51 rfl (fun c51 => ?_) (fun c51 => ?_)
            · have hV := hV.1 c51
              refine kt_iload_n C dX8_bound_59 rfl rfl ?_
              refine kt_bipush (v := 6) C dX8_bound_60 (by decide) ?_
              refine kt_icmp_ne C 70 dX8_bound_62 rfl (fun c62 => ?_) (fun c62 => ?_)
              · have hV := hV.1 c62
                refine kt_iload_n C dX8_bound_70 rfl rfl ?_
                refine kt_bipush (v := 7) C dX8_bound_71 (by decide) ?_
                refine kt_icmp_ne C 82 dX8_bound_73 rfl (fun c73 => ?_) (fun c73 => ?_)
                · have hV := hV.1 c73
                  refine kt_ldc (v := (1000000)) C wd_196 dX8_bound_82 ?_
                  exact kt_iret C ⟨_, rfl, hV⟩ dX8_bound_84
                · have hV := hV.2 c73
                  refine kt_sipush (v := 1000) C dX8_bound_76 (by decide) ?_
                  refine kt_goto C 84 dX8_bound_79 rfl ?_
                  exact kt_iret C ⟨_, rfl, hV⟩ dX8_bound_84
              · have hV := hV.2 c62
                refine kt_bipush (v := 100) C dX8_bound_65 (by decide) ?_
                refine kt_goto C 84 dX8_bound_67 rfl ?_
                exact kt_iret C ⟨_, rfl, hV⟩ dX8_bound_84
            · have hV := hV.2 c51
              refine kt_bipush (v := 10) C dX8_bound_54 (by decide) ?_
              refine kt_goto C 84 dX8_bound_56 rfl ?_
              exact kt_iret C ⟨_, rfl, hV⟩ dX8_bound_84
          · have hV := hV.2 c42
            refine kt_iconst (v := 0) C dX8_bound_45 (by decide) ?_
            refine kt_goto C 84 dX8_bound_46 rfl ?_
            exact kt_iret C ⟨_, rfl, hV⟩ dX8_bound_84
        · have hV := hV.2 c32
          refine kt_bipush (v := (-10)) C dX8_bound_35 (by decide) ?_
          refine kt_goto C 84 dX8_bound_37 rfl ?_
          exact kt_iret C ⟨_, rfl, hV⟩ dX8_bound_84
      · have hV := hV.2 c22
        refine kt_bipush (v := (-100)) C dX8_bound_25 (by decide) ?_
        refine kt_goto C 84 dX8_bound_27 rfl ?_
        exact kt_iret C ⟨_, rfl, hV⟩ dX8_bound_84
    · have hV := hV.2 c11
      refine kt_sipush (v := (-1000)) C dX8_bound_14 (by decide) ?_
      refine kt_goto C 84 dX8_bound_17 rfl ?_
      exact kt_iret C ⟨_, rfl, hV⟩ dX8_bound_84
  · have hV := hV.2 c1
    refine kt_ldc (v := (-1000000)) C wd_195 dX8_bound_4 ?_
    refine kt_goto C 84 dX8_bound_6 rfl ?_
    exact kt_iret C ⟨_, rfl, hV⟩ dX8_bound_84
theorem hd_X8_join : yX8_join.cls = RX8 ∧ yX8_join.cls ≠ "java/lang/invoke/MethodHandle" ∧ yX8_join.cls ≠ "java/lang/invoke/VarHandle" ∧ (parseMethodDescriptor yX8_join.desc).map (fun d => d.parameters.length) = some 2 := by decide +kernel
def V_X8_join_216 (y1 : Int32) (y2 : Int32) (y3 : Int32) (y4 : Int32) (y5 : Int32) (y6 : Int32) (m : MW) (K : Int32 → MW → Prop) : Prop := ((y6 = 0 ∨ y6 = 1) ∧ K y6 m)
def V_X8_join_176 (n : Nat) (y1 : Int32) (y2 : Int32) (y3 : Int32) (y4 : Int32) (y5 : Int32) (y6 : Int32) (y7 : Int32) (m : MW) (K : Int32 → MW → Prop) : Prop := match n with
  | 0 => False
  | n + 1 => ((y2 = 0 → ((y2 = 0 → (vp_in y3 10 ∧ ∀ m1 : MW, m1 = (m.1, up2 m.2 31 (y3).toNatClampNeg y5) → (V_X8_join_216  (y1) (y2) (y3) (y4) (y5) (y6) m1 K))) ∧ (¬ y2 = 0 → (V_X8_bound  (y7) m (fun v3 m2 => (vp_in y3 10 ∧ ∀ m4 : MW, m4 = (m2.1, up2 m2.2 31 (y3).toNatClampNeg v3) → (V_X8_join_216  (y1) (y2) (y3) (y4) (y5) (y6) m4 K))))))) ∧ (¬ y2 = 0 → (V_X8_bound  (y7) m (fun v6 m5 => ((y5 ≤ v6 → ((y2 = 0 → (vp_in y3 10 ∧ ∀ m7 : MW, m7 = (m5.1, up2 m5.2 31 (y3).toNatClampNeg y5) → (V_X8_join_216  (y1) (y2) (y3) (y4) (y5) (y6) m7 K))) ∧ (¬ y2 = 0 → (V_X8_bound  (y7) m5 (fun v9 m8 => (vp_in y3 10 ∧ ∀ m10 : MW, m10 = (m8.1, up2 m8.2 31 (y3).toNatClampNeg v9) → (V_X8_join_216  (y1) (y2) (y3) (y4) (y5) (y6) m10 K))))))) ∧ (¬ y5 ≤ v6 → (V_X8_join_176 n  (y1) (y2) (y3) (y4) (y5) (y6) ((y7 + 1)) m5 K)))))))
def V_X8_join_162 (y1 : Int32) (y2 : Int32) (y3 : Int32) (y4 : Int32) (y5 : Int32) (y6 : Int32) (m : MW) (K : Int32 → MW → Prop) : Prop := (vp_in y3 10 ∧ ((y5 ≤ (m.2 31 (y3).toNatClampNeg) → (V_X8_join_216  (y1) (y2) (y3) (y4) (y5) (y6) m K)) ∧ (¬ y5 ≤ (m.2 31 (y3).toNatClampNeg) → (∃ k : Nat, V_X8_join_176 k  (y1) (y2) (y3) (y4) (y5) (y6) (0) m K))))
def V_X8_join_122 (n : Nat) (y1 : Int32) (y2 : Int32) (y3 : Int32) (y4 : Int32) (y5 : Int32) (y6 : Int32) (y7 : Int32) (m : MW) (K : Int32 → MW → Prop) : Prop := match n with
  | 0 => False
  | n + 1 => ((y2 = 0 → ((y2 = 0 → (vp_in y3 10 ∧ ∀ m11 : MW, m11 = (m.1, up2 m.2 30 (y3).toNatClampNeg y4) → (V_X8_join_162  (y1) (y2) (y3) (y4) (y5) (y6) m11 K))) ∧ (¬ y2 = 0 → (V_X8_bound  (y7) m (fun v13 m12 => (vp_in y3 10 ∧ ∀ m14 : MW, m14 = (m12.1, up2 m12.2 30 (y3).toNatClampNeg v13) → (V_X8_join_162  (y1) (y2) (y3) (y4) (y5) (y6) m14 K))))))) ∧ (¬ y2 = 0 → (V_X8_bound  (y7) m (fun v16 m15 => ((v16 ≤ y4 → ((y2 = 0 → (vp_in y3 10 ∧ ∀ m17 : MW, m17 = (m15.1, up2 m15.2 30 (y3).toNatClampNeg y4) → (V_X8_join_162  (y1) (y2) (y3) (y4) (y5) (y6) m17 K))) ∧ (¬ y2 = 0 → (V_X8_bound  (y7) m15 (fun v19 m18 => (vp_in y3 10 ∧ ∀ m20 : MW, m20 = (m18.1, up2 m18.2 30 (y3).toNatClampNeg v19) → (V_X8_join_162  (y1) (y2) (y3) (y4) (y5) (y6) m20 K))))))) ∧ (¬ v16 ≤ y4 → (V_X8_join_122 n  (y1) (y2) (y3) (y4) (y5) (y6) ((y7 + (-1))) m15 K)))))))
def V_X8_join_105 (y1 : Int32) (y2 : Int32) (y3 : Int32) (y4 : Int32) (y5 : Int32) (z0 : Int32) (m : MW) (K : Int32 → MW → Prop) : Prop := (vp_in y3 10 ∧ (((m.2 30 (y3).toNatClampNeg) ≤ y4 → (V_X8_join_162  (y1) (y2) (y3) (y4) (y5) (z0) m K)) ∧ (¬ (m.2 30 (y3).toNatClampNeg) ≤ y4 → (∃ k : Nat, V_X8_join_122 k  (y1) (y2) (y3) (y4) (y5) (z0) (8) m K))))
def V_X8_join (x1 : Int32) (x2 : Int32) (m : MW) (K : Int32 → MW → Prop) : Prop := (vp_in x1 10 ∧ (vp_in x1 10 ∧ (vp_in (((3 * x1) + (m.2 39 (x1).toNatClampNeg)) - 1) 30 ∧ (vp_in x1 10 ∧ (vp_in (((3 * x1) + (m.2 39 (x1).toNatClampNeg)) - 1) 30 ∧ (vp_in (m.2 33 (x1).toNatClampNeg) 10 ∧ (vp_in (m.2 33 (x1).toNatClampNeg) 10 ∧ (((m.2 30 ((m.2 33 (x1).toNatClampNeg)).toNatClampNeg) ≤ (m.2 31 ((m.2 33 (x1).toNatClampNeg)).toNatClampNeg) → (vp_in (m.2 33 (x1).toNatClampNeg) 10 ∧ (((m.2 40 ((((3 * x1) + (m.2 39 (x1).toNatClampNeg)) - 1)).toNatClampNeg) < (m.2 30 ((m.2 33 (x1).toNatClampNeg)).toNatClampNeg) → (V_X8_join_105  (x1) (x2) ((m.2 33 (x1).toNatClampNeg)) ((m.2 40 ((((3 * x1) + (m.2 39 (x1).toNatClampNeg)) - 1)).toNatClampNeg)) ((m.2 41 ((((3 * x1) + (m.2 39 (x1).toNatClampNeg)) - 1)).toNatClampNeg)) (1) m K)) ∧ (¬ (m.2 40 ((((3 * x1) + (m.2 39 (x1).toNatClampNeg)) - 1)).toNatClampNeg) < (m.2 30 ((m.2 33 (x1).toNatClampNeg)).toNatClampNeg) → (vp_in (m.2 33 (x1).toNatClampNeg) 10 ∧ (((m.2 41 ((((3 * x1) + (m.2 39 (x1).toNatClampNeg)) - 1)).toNatClampNeg) ≤ (m.2 31 ((m.2 33 (x1).toNatClampNeg)).toNatClampNeg) → (V_X8_join_105  (x1) (x2) ((m.2 33 (x1).toNatClampNeg)) ((m.2 40 ((((3 * x1) + (m.2 39 (x1).toNatClampNeg)) - 1)).toNatClampNeg)) ((m.2 41 ((((3 * x1) + (m.2 39 (x1).toNatClampNeg)) - 1)).toNatClampNeg)) (0) m K)) ∧ (¬ (m.2 41 ((((3 * x1) + (m.2 39 (x1).toNatClampNeg)) - 1)).toNatClampNeg) ≤ (m.2 31 ((m.2 33 (x1).toNatClampNeg)).toNatClampNeg) → (V_X8_join_105  (x1) (x2) ((m.2 33 (x1).toNatClampNeg)) ((m.2 40 ((((3 * x1) + (m.2 39 (x1).toNatClampNeg)) - 1)).toNatClampNeg)) ((m.2 41 ((((3 * x1) + (m.2 39 (x1).toNatClampNeg)) - 1)).toNatClampNeg)) (1) m K)))))))) ∧ (¬ (m.2 30 ((m.2 33 (x1).toNatClampNeg)).toNatClampNeg) ≤ (m.2 31 ((m.2 33 (x1).toNatClampNeg)).toNatClampNeg) → (vp_in (m.2 33 (x1).toNatClampNeg) 10 ∧ ∀ m21 : MW, m21 = (m.1, up2 m.2 30 ((m.2 33 (x1).toNatClampNeg)).toNatClampNeg (m.2 40 ((((3 * x1) + (m.2 39 (x1).toNatClampNeg)) - 1)).toNatClampNeg)) → (vp_in (m.2 33 (x1).toNatClampNeg) 10 ∧ ∀ m22 : MW, m22 = (m21.1, up2 m21.2 31 ((m.2 33 (x1).toNatClampNeg)).toNatClampNeg (m.2 41 ((((3 * x1) + (m.2 39 (x1).toNatClampNeg)) - 1)).toNatClampNeg)) → (K 1 m22))))))))))))
set_option maxHeartbeats 4000000 in
set_option maxRecDepth 100000 in
theorem w_X8_join_216 {p : Program} {l : Launch} {e : Env} {s : State} {mi : MethodId} {args : Array Value} {below : List Frame} {meth : Method} {c : Code} {g : GG} {K : Int32 → MW → Prop} (C : Cx p s mi args meth c cX8_join RX8 8 (some .boolean) g) {y1 : Int32} {y2 : Int32} {y3 : Int32} {y4 : Int32} {y5 : Int32} {y6 : Int32} {m : MW} (hV : V_X8_join_216  y1 y2 y3 y4 y5 y6 m K) : TT p l e { frames := 1, cells := 0, slots := 0, locals := 20 } s mi args below meth c 0 0 (MQ below (QE g (Ei K)) args s 0 0 (gA g)) g 8 m 216 [(0, .ref (gad g 22 0)), (1, .int (y1)), (2, .int (y2)), (3, .int (y3)), (4, .int (y4)), (5, .int (y5)), (6, .int (y6))] [] := by
  unfold V_X8_join_216 at hV
  refine kt_iload C dX8_join_216 rfl ?_
  exact kt_bret C hV.1 ⟨_, rfl, hV.2⟩ dX8_join_218
set_option maxHeartbeats 4000000 in
set_option maxRecDepth 100000 in
theorem w_X8_join_176 {p : Program} {l : Launch} {e : Env} {s : State} {mi : MethodId} {args : Array Value} {below : List Frame} {meth : Method} {c : Code} {g : GG} {K : Int32 → MW → Prop} (C : Cx p s mi args meth c cX8_join RX8 8 (some .boolean) g) (n : Nat) : ∀ {y1 : Int32} {y2 : Int32} {y3 : Int32} {y4 : Int32} {y5 : Int32} {y6 : Int32} {y7 : Int32} {m : MW}, V_X8_join_176 n  y1 y2 y3 y4 y5 y6 y7 m K → TT p l e { frames := 1, cells := 0, slots := 0, locals := 20 } s mi args below meth c 0 0 (MQ below (QE g (Ei K)) args s 0 0 (gA g)) g 8 m 176 [(0, .ref (gad g 22 0)), (1, .int (y1)), (2, .int (y2)), (3, .int (y3)), (4, .int (y4)), (5, .int (y5)), (6, .int (y6)), (7, .int (y7))] [] := by
  induction n with
  | zero => intros; rename_i hV; exact absurd hV (by simp [V_X8_join_176])
  | succ n ih =>
    intro y1 y2 y3 y4 y5 y6 y7 m hV
    unfold V_X8_join_176 at hV
    refine kt_iload_n C dX8_join_176 rfl rfl ?_
    refine kt_if_eq C 196 dX8_join_177 rfl (fun c177 => ?_) (fun c177 => ?_)
    · have hV := hV.1 c177
      refine kt_aload_n C dX8_join_196 rfl rfl ?_
      refine kt_get (ci := 8) C 1 (by decide) rfl rfl inlX8 (by decide) wd_120 rfl dX8_join_197 ?_
      refine kt_iload_n C dX8_join_200 rfl rfl ?_
      refine kt_iload_n C dX8_join_201 rfl rfl ?_
      refine kt_if_eq C 213 dX8_join_202 rfl (fun c202 => ?_) (fun c202 => ?_)
      · have hV := hV.1 c202
        refine kt_iload C dX8_join_213 rfl ?_
        refine kt_iast2 C rfl rfl hV.1 (ea_31 _ _ _ _) dX8_join_215 (fun m1 hm1 => ?_)
        have hV := hV.2 m1 hm1
        refine kt_pick (lv' := [(0, .ref _), (1, .int _), (2, .int _), (3, .int _), (4, .int _), (5, .int _), (6, .int _)]) [0, 1, 2, 3, 4, 5, 6] rfl ?_
        exact w_X8_join_216 C  hV
      · have hV := hV.2 c202
        refine kt_iload C dX8_join_205 rfl ?_
        refine kt_callS (n := 1) C (w_X8_bound  hV) wd_504 wd_505 wd_5 wd_506 hd_X8_bound rfl ⟨Nat.le_of_ble_eq_true rfl, Nat.le_of_ble_eq_true rfl⟩ ⟨Nat.zero_le _, Nat.zero_le _⟩ rfl (Nat.le_of_ble_eq_true rfl) dX8_join_207 (fun r m2 hE => ?_)
        obtain ⟨v3, rfl, hV⟩ := hE
        refine kt_sti ?_
        refine kt_goto C 215 dX8_join_210 rfl ?_
        refine kt_iast2 C rfl rfl hV.1 (ea_31 _ _ _ _) dX8_join_215 (fun m4 hm4 => ?_)
        have hV := hV.2 m4 hm4
        refine kt_pick (lv' := [(0, .ref _), (1, .int _), (2, .int _), (3, .int _), (4, .int _), (5, .int _), (6, .int _)]) [0, 1, 2, 3, 4, 5, 6] rfl ?_
        exact w_X8_join_216 C  hV
    · have hV := hV.2 c177
      refine kt_iload C dX8_join_180 rfl ?_
      refine kt_callS (n := 1) C (w_X8_bound  hV) wd_504 wd_505 wd_5 wd_506 hd_X8_bound rfl ⟨Nat.le_of_ble_eq_true rfl, Nat.le_of_ble_eq_true rfl⟩ ⟨Nat.zero_le _, Nat.zero_le _⟩ rfl (Nat.le_of_ble_eq_true rfl) dX8_join_182 (fun r m5 hE => ?_)
      obtain ⟨v6, rfl, hV⟩ := hE
      refine kt_sti ?_
      refine kt_iload C dX8_join_185 rfl ?_
      refine kt_icmp_ge C 196 dX8_join_187 rfl (fun c187 => ?_) (fun c187 => ?_)
      · have hV := hV.1 c187
        refine kt_aload_n C dX8_join_196 rfl rfl ?_
        refine kt_get (ci := 8) C 1 (by decide) rfl rfl inlX8 (by decide) wd_120 rfl dX8_join_197 ?_
        refine kt_iload_n C dX8_join_200 rfl rfl ?_
        refine kt_iload_n C dX8_join_201 rfl rfl ?_
        refine kt_if_eq C 213 dX8_join_202 rfl (fun c202 => ?_) (fun c202 => ?_)
        · have hV := hV.1 c202
          refine kt_iload C dX8_join_213 rfl ?_
          refine kt_iast2 C rfl rfl hV.1 (ea_31 _ _ _ _) dX8_join_215 (fun m7 hm7 => ?_)
          have hV := hV.2 m7 hm7
          refine kt_pick (lv' := [(0, .ref _), (1, .int _), (2, .int _), (3, .int _), (4, .int _), (5, .int _), (6, .int _)]) [0, 1, 2, 3, 4, 5, 6] rfl ?_
          exact w_X8_join_216 C  hV
        · have hV := hV.2 c202
          refine kt_iload C dX8_join_205 rfl ?_
          refine kt_callS (n := 1) C (w_X8_bound  hV) wd_504 wd_505 wd_5 wd_506 hd_X8_bound rfl ⟨Nat.le_of_ble_eq_true rfl, Nat.le_of_ble_eq_true rfl⟩ ⟨Nat.zero_le _, Nat.zero_le _⟩ rfl (Nat.le_of_ble_eq_true rfl) dX8_join_207 (fun r m8 hE => ?_)
          obtain ⟨v9, rfl, hV⟩ := hE
          refine kt_sti ?_
          refine kt_goto C 215 dX8_join_210 rfl ?_
          refine kt_iast2 C rfl rfl hV.1 (ea_31 _ _ _ _) dX8_join_215 (fun m10 hm10 => ?_)
          have hV := hV.2 m10 hm10
          refine kt_pick (lv' := [(0, .ref _), (1, .int _), (2, .int _), (3, .int _), (4, .int _), (5, .int _), (6, .int _)]) [0, 1, 2, 3, 4, 5, 6] rfl ?_
          exact w_X8_join_216 C  hV
      · have hV := hV.2 c187
        refine kt_iinc (v := _ + 1) (lv' := [(7, .int _), (0, .ref _), (1, .int _), (2, .int _), (3, .int _), (4, .int _), (5, .int _), (6, .int _)]) C dX8_join_190 rfl rfl (by decide) rfl ?_
        refine kt_goto C 176 dX8_join_193 rfl ?_
        refine kt_pick (lv' := [(0, .ref _), (1, .int _), (2, .int _), (3, .int _), (4, .int _), (5, .int _), (6, .int _), (7, .int _)]) [1, 2, 3, 4, 5, 6, 7, 0] rfl ?_
        exact ih  hV
set_option maxHeartbeats 4000000 in
set_option maxRecDepth 100000 in
theorem w_X8_join_162 {p : Program} {l : Launch} {e : Env} {s : State} {mi : MethodId} {args : Array Value} {below : List Frame} {meth : Method} {c : Code} {g : GG} {K : Int32 → MW → Prop} (C : Cx p s mi args meth c cX8_join RX8 8 (some .boolean) g) {y1 : Int32} {y2 : Int32} {y3 : Int32} {y4 : Int32} {y5 : Int32} {y6 : Int32} {m : MW} (hV : V_X8_join_162  y1 y2 y3 y4 y5 y6 m K) : TT p l e { frames := 1, cells := 0, slots := 0, locals := 20 } s mi args below meth c 0 0 (MQ below (QE g (Ei K)) args s 0 0 (gA g)) g 8 m 162 [(0, .ref (gad g 22 0)), (1, .int (y1)), (2, .int (y2)), (3, .int (y3)), (4, .int (y4)), (5, .int (y5)), (6, .int (y6))] [] := by
  unfold V_X8_join_162 at hV
  refine kt_iload C dX8_join_162 rfl ?_
  refine kt_aload_n C dX8_join_164 rfl rfl ?_
  refine kt_get (ci := 8) C 1 (by decide) rfl rfl inlX8 (by decide) wd_120 rfl dX8_join_165 ?_
  refine kt_iload_n C dX8_join_168 rfl rfl ?_
  refine kt_iald C (by decide) rfl hV.1 dX8_join_169 ?_
  have hV := hV.2
  refine kt_icmp_le C 216 dX8_join_170 rfl (fun c170 => ?_) (fun c170 => ?_)
  · have hV := hV.1 c170
    refine kt_pick (lv' := [(0, .ref _), (1, .int _), (2, .int _), (3, .int _), (4, .int _), (5, .int _), (6, .int _)]) [0, 1, 2, 3, 4, 5, 6] rfl ?_
    exact w_X8_join_216 C  hV
  · have hV := hV.2 c170
    refine kt_iconst (v := 0) C dX8_join_173 (by decide) ?_
    refine kt_istore (lv' := [(7, .int _), (0, .ref _), (1, .int _), (2, .int _), (3, .int _), (4, .int _), (5, .int _), (6, .int _)]) C dX8_join_174 (by decide) rfl ?_
    obtain ⟨k, hV⟩ := hV
    refine kt_pick (lv' := [(0, .ref _), (1, .int _), (2, .int _), (3, .int _), (4, .int _), (5, .int _), (6, .int _), (7, .int _)]) [1, 2, 3, 4, 5, 6, 7, 0] rfl ?_
    exact w_X8_join_176 C  k hV
set_option maxHeartbeats 4000000 in
set_option maxRecDepth 100000 in
theorem w_X8_join_122 {p : Program} {l : Launch} {e : Env} {s : State} {mi : MethodId} {args : Array Value} {below : List Frame} {meth : Method} {c : Code} {g : GG} {K : Int32 → MW → Prop} (C : Cx p s mi args meth c cX8_join RX8 8 (some .boolean) g) (n : Nat) : ∀ {y1 : Int32} {y2 : Int32} {y3 : Int32} {y4 : Int32} {y5 : Int32} {y6 : Int32} {y7 : Int32} {m : MW}, V_X8_join_122 n  y1 y2 y3 y4 y5 y6 y7 m K → TT p l e { frames := 1, cells := 0, slots := 0, locals := 20 } s mi args below meth c 0 0 (MQ below (QE g (Ei K)) args s 0 0 (gA g)) g 8 m 122 [(0, .ref (gad g 22 0)), (1, .int (y1)), (2, .int (y2)), (3, .int (y3)), (4, .int (y4)), (5, .int (y5)), (6, .int (y6)), (7, .int (y7))] [] := by
  induction n with
  | zero => intros; rename_i hV; exact absurd hV (by simp [V_X8_join_122])
  | succ n ih =>
    intro y1 y2 y3 y4 y5 y6 y7 m hV
    unfold V_X8_join_122 at hV
    refine kt_iload_n C dX8_join_122 rfl rfl ?_
    refine kt_if_eq C 142 dX8_join_123 rfl (fun c123 => ?_) (fun c123 => ?_)
    · have hV := hV.1 c123
      refine kt_aload_n C dX8_join_142 rfl rfl ?_
      refine kt_get (ci := 8) C 0 (by decide) rfl rfl inlX8 (by decide) wd_119 rfl dX8_join_143 ?_
      refine kt_iload_n C dX8_join_146 rfl rfl ?_
      refine kt_iload_n C dX8_join_147 rfl rfl ?_
      refine kt_if_eq C 159 dX8_join_148 rfl (fun c148 => ?_) (fun c148 => ?_)
      · have hV := hV.1 c148
        refine kt_iload C dX8_join_159 rfl ?_
        refine kt_iast2 C rfl rfl hV.1 (ea_30 _ _ _ _) dX8_join_161 (fun m11 hm11 => ?_)
        have hV := hV.2 m11 hm11
        refine kt_pick (lv' := [(0, .ref _), (1, .int _), (2, .int _), (3, .int _), (4, .int _), (5, .int _), (6, .int _)]) [0, 1, 2, 3, 4, 5, 6] rfl ?_
        exact w_X8_join_162 C  hV
      · have hV := hV.2 c148
        refine kt_iload C dX8_join_151 rfl ?_
        refine kt_callS (n := 1) C (w_X8_bound  hV) wd_504 wd_505 wd_5 wd_506 hd_X8_bound rfl ⟨Nat.le_of_ble_eq_true rfl, Nat.le_of_ble_eq_true rfl⟩ ⟨Nat.zero_le _, Nat.zero_le _⟩ rfl (Nat.le_of_ble_eq_true rfl) dX8_join_153 (fun r m12 hE => ?_)
        obtain ⟨v13, rfl, hV⟩ := hE
        refine kt_sti ?_
        refine kt_goto C 161 dX8_join_156 rfl ?_
        refine kt_iast2 C rfl rfl hV.1 (ea_30 _ _ _ _) dX8_join_161 (fun m14 hm14 => ?_)
        have hV := hV.2 m14 hm14
        refine kt_pick (lv' := [(0, .ref _), (1, .int _), (2, .int _), (3, .int _), (4, .int _), (5, .int _), (6, .int _)]) [0, 1, 2, 3, 4, 5, 6] rfl ?_
        exact w_X8_join_162 C  hV
    · have hV := hV.2 c123
      refine kt_iload C dX8_join_126 rfl ?_
      refine kt_callS (n := 1) C (w_X8_bound  hV) wd_504 wd_505 wd_5 wd_506 hd_X8_bound rfl ⟨Nat.le_of_ble_eq_true rfl, Nat.le_of_ble_eq_true rfl⟩ ⟨Nat.zero_le _, Nat.zero_le _⟩ rfl (Nat.le_of_ble_eq_true rfl) dX8_join_128 (fun r m15 hE => ?_)
      obtain ⟨v16, rfl, hV⟩ := hE
      refine kt_sti ?_
      refine kt_iload C dX8_join_131 rfl ?_
      refine kt_icmp_le C 142 dX8_join_133 rfl (fun c133 => ?_) (fun c133 => ?_)
      · have hV := hV.1 c133
        refine kt_aload_n C dX8_join_142 rfl rfl ?_
        refine kt_get (ci := 8) C 0 (by decide) rfl rfl inlX8 (by decide) wd_119 rfl dX8_join_143 ?_
        refine kt_iload_n C dX8_join_146 rfl rfl ?_
        refine kt_iload_n C dX8_join_147 rfl rfl ?_
        refine kt_if_eq C 159 dX8_join_148 rfl (fun c148 => ?_) (fun c148 => ?_)
        · have hV := hV.1 c148
          refine kt_iload C dX8_join_159 rfl ?_
          refine kt_iast2 C rfl rfl hV.1 (ea_30 _ _ _ _) dX8_join_161 (fun m17 hm17 => ?_)
          have hV := hV.2 m17 hm17
          refine kt_pick (lv' := [(0, .ref _), (1, .int _), (2, .int _), (3, .int _), (4, .int _), (5, .int _), (6, .int _)]) [0, 1, 2, 3, 4, 5, 6] rfl ?_
          exact w_X8_join_162 C  hV
        · have hV := hV.2 c148
          refine kt_iload C dX8_join_151 rfl ?_
          refine kt_callS (n := 1) C (w_X8_bound  hV) wd_504 wd_505 wd_5 wd_506 hd_X8_bound rfl ⟨Nat.le_of_ble_eq_true rfl, Nat.le_of_ble_eq_true rfl⟩ ⟨Nat.zero_le _, Nat.zero_le _⟩ rfl (Nat.le_of_ble_eq_true rfl) dX8_join_153 (fun r m18 hE => ?_)
          obtain ⟨v19, rfl, hV⟩ := hE
          refine kt_sti ?_
          refine kt_goto C 161 dX8_join_156 rfl ?_
          refine kt_iast2 C rfl rfl hV.1 (ea_30 _ _ _ _) dX8_join_161 (fun m20 hm20 => ?_)
          have hV := hV.2 m20 hm20
          refine kt_pick (lv' := [(0, .ref _), (1, .int _), (2, .int _), (3, .int _), (4, .int _), (5, .int _), (6, .int _)]) [0, 1, 2, 3, 4, 5, 6] rfl ?_
          exact w_X8_join_162 C  hV
      · have hV := hV.2 c133
        refine kt_iinc (v := _ + (-1)) (lv' := [(7, .int _), (0, .ref _), (1, .int _), (2, .int _), (3, .int _), (4, .int _), (5, .int _), (6, .int _)]) C dX8_join_136 rfl rfl (by decide) rfl ?_
        refine kt_goto C 122 dX8_join_139 rfl ?_
        refine kt_pick (lv' := [(0, .ref _), (1, .int _), (2, .int _), (3, .int _), (4, .int _), (5, .int _), (6, .int _), (7, .int _)]) [1, 2, 3, 4, 5, 6, 7, 0] rfl ?_
        exact ih  hV
set_option maxHeartbeats 4000000 in
set_option maxRecDepth 100000 in
theorem w_X8_join_105 {p : Program} {l : Launch} {e : Env} {s : State} {mi : MethodId} {args : Array Value} {below : List Frame} {meth : Method} {c : Code} {g : GG} {K : Int32 → MW → Prop} (C : Cx p s mi args meth c cX8_join RX8 8 (some .boolean) g) {y1 : Int32} {y2 : Int32} {y3 : Int32} {y4 : Int32} {y5 : Int32} {z0 : Int32} {m : MW} (hV : V_X8_join_105  y1 y2 y3 y4 y5 z0 m K) : TT p l e { frames := 1, cells := 0, slots := 0, locals := 20 } s mi args below meth c 0 0 (MQ below (QE g (Ei K)) args s 0 0 (gA g)) g 8 m 105 [(0, .ref (gad g 22 0)), (1, .int (y1)), (2, .int (y2)), (3, .int (y3)), (4, .int (y4)), (5, .int (y5))] [.int (z0)] := by
  unfold V_X8_join_105 at hV
  refine kt_istore (lv' := [(6, .int _), (0, .ref _), (1, .int _), (2, .int _), (3, .int _), (4, .int _), (5, .int _)]) C dX8_join_105 (by decide) rfl ?_
  refine kt_iload C dX8_join_107 rfl ?_
  refine kt_aload_n C dX8_join_109 rfl rfl ?_
  refine kt_get (ci := 8) C 0 (by decide) rfl rfl inlX8 (by decide) wd_119 rfl dX8_join_110 ?_
  refine kt_iload_n C dX8_join_113 rfl rfl ?_
  refine kt_iald C (by decide) rfl hV.1 dX8_join_114 ?_
  have hV := hV.2
  refine kt_icmp_ge C 162 dX8_join_115 rfl (fun c115 => ?_) (fun c115 => ?_)
  · have hV := hV.1 c115
    refine kt_pick (lv' := [(0, .ref _), (1, .int _), (2, .int _), (3, .int _), (4, .int _), (5, .int _), (6, .int _)]) [1, 2, 3, 4, 5, 6, 0] rfl ?_
    exact w_X8_join_162 C  hV
  · have hV := hV.2 c115
    refine kt_bipush (v := 8) C dX8_join_118 (by decide) ?_
    refine kt_istore (lv' := [(7, .int _), (6, .int _), (0, .ref _), (1, .int _), (2, .int _), (3, .int _), (4, .int _), (5, .int _)]) C dX8_join_120 (by decide) rfl ?_
    obtain ⟨k, hV⟩ := hV
    refine kt_pick (lv' := [(0, .ref _), (1, .int _), (2, .int _), (3, .int _), (4, .int _), (5, .int _), (6, .int _), (7, .int _)]) [2, 3, 4, 5, 6, 7, 1, 0] rfl ?_
    exact w_X8_join_122 C  k hV
set_option maxHeartbeats 4000000 in
set_option maxRecDepth 100000 in
theorem w_X8_join {l : Launch} {g : GG} {x1 : Int32} {x2 : Int32} {m : MW} {K : Int32 → MW → Prop} (hV : V_X8_join  x1 x2 m K) : Ct l yX8_join cX8_join 8 (some .boolean) 1 20 [.ref (gad g 22 0), .int x1, .int x2] g m (Ei K) := by
  refine ct_intro RX8 (by decide) rfl (Nat.le_of_ble_eq_true rfl) ?_
  intro p e s mi below meth c C
  unfold V_X8_join at hV
  refine kt_aload_n C dX8_join_0 rfl rfl ?_
  refine kt_get (ci := 8) C 3 (by decide) rfl rfl inlX8 (by decide) wd_121 rfl dX8_join_1 ?_
  refine kt_iload_n C dX8_join_4 rfl rfl ?_
  refine kt_iald C (by decide) rfl hV.1 dX8_join_5 ?_
  have hV := hV.2
  refine kt_istore_n (lv' := [(3, .int _), (0, .ref _), (1, .int _), (2, .int _)]) C dX8_join_6 rfl (by decide) rfl ?_
  refine kt_aload_n C dX8_join_7 rfl rfl ?_
  refine kt_get (ci := 8) C 10 (by decide) rfl rfl inlX8 (by decide) wd_128 rfl dX8_join_8 ?_
  refine kt_iconst (v := 3) C dX8_join_11 (by decide) ?_
  refine kt_iload_n C dX8_join_12 rfl rfl ?_
  refine kt_imul C dX8_join_13 ?_
  refine kt_aload_n C dX8_join_14 rfl rfl ?_
  refine kt_get (ci := 8) C 9 (by decide) rfl rfl inlX8 (by decide) wd_127 rfl dX8_join_15 ?_
  refine kt_iload_n C dX8_join_18 rfl rfl ?_
  refine kt_iald C (by decide) rfl hV.1 dX8_join_19 ?_
  have hV := hV.2
  refine kt_iadd C dX8_join_20 ?_
  refine kt_iconst (v := 1) C dX8_join_21 (by decide) ?_
  refine kt_isub C dX8_join_22 ?_
  refine kt_iald C (by decide) rfl hV.1 dX8_join_23 ?_
  have hV := hV.2
  refine kt_istore (lv' := [(4, .int _), (3, .int _), (0, .ref _), (1, .int _), (2, .int _)]) C dX8_join_24 (by decide) rfl ?_
  refine kt_aload_n C dX8_join_26 rfl rfl ?_
  refine kt_get (ci := 8) C 11 (by decide) rfl rfl inlX8 (by decide) wd_129 rfl dX8_join_27 ?_
  refine kt_iconst (v := 3) C dX8_join_30 (by decide) ?_
  refine kt_iload_n C dX8_join_31 rfl rfl ?_
  refine kt_imul C dX8_join_32 ?_
  refine kt_aload_n C dX8_join_33 rfl rfl ?_
  refine kt_get (ci := 8) C 9 (by decide) rfl rfl inlX8 (by decide) wd_127 rfl dX8_join_34 ?_
  refine kt_iload_n C dX8_join_37 rfl rfl ?_
  refine kt_iald C (by decide) rfl hV.1 dX8_join_38 ?_
  have hV := hV.2
  refine kt_iadd C dX8_join_39 ?_
  refine kt_iconst (v := 1) C dX8_join_40 (by decide) ?_
  refine kt_isub C dX8_join_41 ?_
  refine kt_iald C (by decide) rfl hV.1 dX8_join_42 ?_
  have hV := hV.2
  refine kt_istore (lv' := [(5, .int _), (4, .int _), (3, .int _), (0, .ref _), (1, .int _), (2, .int _)]) C dX8_join_43 (by decide) rfl ?_
  refine kt_aload_n C dX8_join_45 rfl rfl ?_
  refine kt_get (ci := 8) C 0 (by decide) rfl rfl inlX8 (by decide) wd_119 rfl dX8_join_46 ?_
  refine kt_iload_n C dX8_join_49 rfl rfl ?_
  refine kt_iald C (by decide) rfl hV.1 dX8_join_50 ?_
  have hV := hV.2
  refine kt_aload_n C dX8_join_51 rfl rfl ?_
  refine kt_get (ci := 8) C 1 (by decide) rfl rfl inlX8 (by decide) wd_120 rfl dX8_join_52 ?_
  refine kt_iload_n C dX8_join_55 rfl rfl ?_
  refine kt_iald C (by decide) rfl hV.1 dX8_join_56 ?_
  have hV := hV.2
  refine kt_icmp_le C 78 dX8_join_57 rfl (fun c57 => ?_) (fun c57 => ?_)
  · have hV := hV.1 c57
    refine kt_iload C dX8_join_78 rfl ?_
    refine kt_aload_n C dX8_join_80 rfl rfl ?_
    refine kt_get (ci := 8) C 0 (by decide) rfl rfl inlX8 (by decide) wd_119 rfl dX8_join_81 ?_
    refine kt_iload_n C dX8_join_84 rfl rfl ?_
    refine kt_iald C (by decide) rfl hV.1 dX8_join_85 ?_
    have hV := hV.2
    refine kt_icmp_lt C 100 dX8_join_86 rfl (fun c86 => ?_) (fun c86 => ?_)
    · have hV := hV.1 c86
      refine kt_iconst (v := 1) C dX8_join_100 (by decide) ?_
      refine kt_goto C 105 dX8_join_101 rfl ?_
      refine kt_pick (lv' := [(0, .ref _), (1, .int _), (2, .int _), (3, .int _), (4, .int _), (5, .int _)]) [3, 4, 5, 2, 1, 0] rfl ?_
      exact w_X8_join_105 C  hV
    · have hV := hV.2 c86
      refine kt_iload C dX8_join_89 rfl ?_
      refine kt_aload_n C dX8_join_91 rfl rfl ?_
      refine kt_get (ci := 8) C 1 (by decide) rfl rfl inlX8 (by decide) wd_120 rfl dX8_join_92 ?_
      refine kt_iload_n C dX8_join_95 rfl rfl ?_
      refine kt_iald C (by decide) rfl hV.1 dX8_join_96 ?_
      have hV := hV.2
      refine kt_icmp_le C 104 dX8_join_97 rfl (fun c97 => ?_) (fun c97 => ?_)
      · have hV := hV.1 c97
        refine kt_iconst (v := 0) C dX8_join_104 (by decide) ?_
        refine kt_pick (lv' := [(0, .ref _), (1, .int _), (2, .int _), (3, .int _), (4, .int _), (5, .int _)]) [3, 4, 5, 2, 1, 0] rfl ?_
        exact w_X8_join_105 C  hV
      · have hV := hV.2 c97
        refine kt_iconst (v := 1) C dX8_join_100 (by decide) ?_
        refine kt_goto C 105 dX8_join_101 rfl ?_
        refine kt_pick (lv' := [(0, .ref _), (1, .int _), (2, .int _), (3, .int _), (4, .int _), (5, .int _)]) [3, 4, 5, 2, 1, 0] rfl ?_
        exact w_X8_join_105 C  hV
  · have hV := hV.2 c57
    refine kt_aload_n C dX8_join_60 rfl rfl ?_
    refine kt_get (ci := 8) C 0 (by decide) rfl rfl inlX8 (by decide) wd_119 rfl dX8_join_61 ?_
    refine kt_iload_n C dX8_join_64 rfl rfl ?_
    refine kt_iload C dX8_join_65 rfl ?_
    refine kt_iast2 C rfl rfl hV.1 (ea_30 _ _ _ _) dX8_join_67 (fun m21 hm21 => ?_)
    have hV := hV.2 m21 hm21
    refine kt_aload_n C dX8_join_68 rfl rfl ?_
    refine kt_get (ci := 8) C 1 (by decide) rfl rfl inlX8 (by decide) wd_120 rfl dX8_join_69 ?_
    refine kt_iload_n C dX8_join_72 rfl rfl ?_
    refine kt_iload C dX8_join_73 rfl ?_
    refine kt_iast2 C rfl rfl hV.1 (ea_31 _ _ _ _) dX8_join_75 (fun m22 hm22 => ?_)
    have hV := hV.2 m22 hm22
    refine kt_iconst (v := 1) C dX8_join_76 (by decide) ?_
    exact kt_zret C rfl ⟨_, rfl, hV⟩ dX8_join_77
theorem hd_X8_run : yX8_run.cls = RX8 ∧ yX8_run.cls ≠ "java/lang/invoke/MethodHandle" ∧ yX8_run.cls ≠ "java/lang/invoke/VarHandle" ∧ (parseMethodDescriptor yX8_run.desc).map (fun d => d.parameters.length) = some 1 := by decide +kernel
def V_X8_run_176 (n : Nat) (y1 : Int32) (y2 : Int32) (y3 : Int32) (y4 : Int32) (y5 : Int32) (O74 : Int32 → Int32 → Int32 → MW → Prop) (m : MW) (K : Int32 → MW → Prop) : Prop := match n with
  | 0 => False
  | n + 1 => (((m.2 22 2) ≤ y5 → ((¬ y4 = 0 → (O74 (y1) (y2) ((y3 + 1)) m)) ∧ (y4 = 0 → (K 0 m)))) ∧ (¬ (m.2 22 2) ≤ y5 → ((y3 < (m.2 22 26) → (V_X8_join  (y5) (0) m (fun v12 m11 => ((¬ v12 = 0 → (V_X8_run_176 n  (y1) (y2) (y3) (1) ((y5 + 1)) O74 m11 K)) ∧ (v12 = 0 → ((y4 = 0 → (V_X8_run_176 n  (y1) (y2) (y3) (0) ((y5 + 1)) O74 m11 K)) ∧ (¬ y4 = 0 → (V_X8_run_176 n  (y1) (y2) (y3) (1) ((y5 + 1)) O74 m11 K)))))))) ∧ (¬ y3 < (m.2 22 26) → (V_X8_join  (y5) (1) m (fun v14 m13 => ((¬ v14 = 0 → (V_X8_run_176 n  (y1) (y2) (y3) (1) ((y5 + 1)) O74 m13 K)) ∧ (v14 = 0 → ((y4 = 0 → (V_X8_run_176 n  (y1) (y2) (y3) (0) ((y5 + 1)) O74 m13 K)) ∧ (¬ y4 = 0 → (V_X8_run_176 n  (y1) (y2) (y3) (1) ((y5 + 1)) O74 m13 K)))))))))))
def V_X8_run_91 (n : Nat) (y1 : Int32) (y2 : Int32) (y3 : Int32) (y4 : Int32) (O74 : Int32 → Int32 → Int32 → MW → Prop) (m : MW) (K : Int32 → MW → Prop) : Prop := match n with
  | 0 => False
  | n + 1 => (((m.2 22 2) ≤ y4 → ((((m.2 22 31) + y2) ≤ (m.2 22 27) → (∀ m9 : MW, m9 = (m.1, up2 m.2 22 31 ((m.2 22 31) + y2)) → (∀ m10 : MW, m10 = (m9.1, up2 m9.2 22 28 ((m9.2 22 28) + 1)) → (∃ k : Nat, V_X8_run_176 k  (y1) (y2) (y3) (0) (0) O74 m10 K)))) ∧ (¬ ((m.2 22 31) + y2) ≤ (m.2 22 27) → (K 4 m)))) ∧ (¬ (m.2 22 2) ≤ y4 → (vp_in y4 10 ∧ (((m.2 44 (y4).toNatClampNeg) ≤ 0 → (V_X8_run_91 n  (y1) (y2) (y3) ((y4 + 1)) O74 m K)) ∧ (¬ (m.2 44 (y4).toNatClampNeg) ≤ 0 → (∀ m15 : MW, m15 = (m.1, up2 m.2 22 29 y4) → (vp_in y4 10 ∧ (∀ m16 : MW, m16 = (m15.1, up2 m15.2 22 30 (m15.2 44 (y4).toNatClampNeg)) → (K 2 m16)))))))))
def V_X8_run_74 (n : Nat) (y1 : Int32) (y2 : Int32) (y3 : Int32) (m : MW) (K : Int32 → MW → Prop) : Prop := match n with
  | 0 => False
  | n + 1 => ((y1 < y3 → (K 1 m)) ∧ (¬ y1 < y3 → (V_X8_round   m (fun v8 m7 => ((¬ v8 = 0 → (∃ k : Nat, V_X8_run_91 k  (y1) (y2) (y3) (0) (fun a0 a1 a2 mm => V_X8_run_74 n  a0 a1 a2 mm K) m7 K)) ∧ (v8 = 0 → (K 3 m7)))))))
def V_X8_run_49 (n : Nat) (y1 : Int32) (y2 : Int32) (y3 : Int32) (m : MW) (K : Int32 → MW → Prop) : Prop := match n with
  | 0 => False
  | n + 1 => (((m.2 22 2) ≤ y3 → (∃ k : Nat, V_X8_run_74 k  (y1) (y2) (1) m K)) ∧ (¬ (m.2 22 2) ≤ y3 → (vp_in y3 10 ∧ (V_X8_run_49 n  (y1) ((y2 + (m.2 34 (y3).toNatClampNeg))) ((y3 + 1)) m K))))
def V_X8_run (x1 : Int32) (m : MW) (K : Int32 → MW → Prop) : Prop := ((x1 < 1 → (K (-2000002) m)) ∧ (¬ x1 < 1 → ((x1 ≤ 10 → (∀ m1 : MW, m1 = (m.1, up2 m.2 22 28 0) → (∀ m2 : MW, m2 = (m1.1, up2 m1.2 22 29 (-2000000)) → (∀ m3 : MW, m3 = (m2.1, up2 m2.2 22 30 0) → (∀ m4 : MW, m4 = (m3.1, up2 m3.2 22 31 0) → (∀ m5 : MW, m5 = (m4.1, up2 m4.2 22 32 0) → (∀ m6 : MW, m6 = (m5.1, up2 m5.2 22 33 0) → (∃ k : Nat, V_X8_run_49 k  (x1) (0) (0) m6 K)))))))) ∧ (¬ x1 ≤ 10 → (K (-2000002) m)))))
set_option maxHeartbeats 4000000 in
set_option maxRecDepth 100000 in
theorem w_X8_run_176 {p : Program} {l : Launch} {e : Env} {s : State} {mi : MethodId} {args : Array Value} {below : List Frame} {meth : Method} {c : Code} {g : GG} {O74 : Int32 → Int32 → Int32 → MW → Prop} {K : Int32 → MW → Prop} (C : Cx p s mi args meth c cX8_run RX8 6 (some .int) g) (hO74 : ∀ (y1 : Int32) (y2 : Int32) (y3 : Int32) (m : MW), O74 y1 y2 y3 m → TT p l e { frames := 5, cells := 0, slots := 0, locals := 121 } s mi args below meth c 0 0 (MQ below (QE g (Ei K)) args s 0 0 (gA g)) g 6 m 74 [(0, .ref (gad g 22 0)), (1, .int (y1)), (2, .int (y2)), (3, .int (y3))] []) (n : Nat) : ∀ {y1 : Int32} {y2 : Int32} {y3 : Int32} {y4 : Int32} {y5 : Int32} {m : MW}, V_X8_run_176 n  y1 y2 y3 y4 y5 O74 m K → TT p l e { frames := 5, cells := 0, slots := 0, locals := 121 } s mi args below meth c 0 0 (MQ below (QE g (Ei K)) args s 0 0 (gA g)) g 6 m 176 [(0, .ref (gad g 22 0)), (1, .int (y1)), (2, .int (y2)), (3, .int (y3)), (4, .int (y4)), (5, .int (y5))] [] := by
  induction n with
  | zero => intros; rename_i hV; exact absurd hV (by simp [V_X8_run_176])
  | succ n ih =>
    intro y1 y2 y3 y4 y5 m hV
    unfold V_X8_run_176 at hV
    refine kt_iload C dX8_run_176 rfl ?_
    refine kt_aload_n C dX8_run_178 rfl rfl ?_
    refine kt_get (ci := 8) C 2 (by decide) rfl rfl inlX8 (by decide) wd_159 rfl dX8_run_179 ?_
    refine kt_icmp_ge C 225 dX8_run_182 rfl (fun c182 => ?_) (fun c182 => ?_)
    · have hV := hV.1 c182
      refine kt_iload C dX8_run_225 rfl ?_
      refine kt_if_ne C 232 dX8_run_227 rfl (fun c227 => ?_) (fun c227 => ?_)
      · have hV := hV.1 c227
        refine kt_iinc (v := _ + 1) (lv' := [(3, .int _), (0, .ref _), (1, .int _), (2, .int _), (4, .int _), (5, .int _)]) C dX8_run_232 rfl rfl (by decide) rfl ?_
        refine kt_goto C 74 dX8_run_235 rfl ?_
        refine kt_pick (lv' := [(0, .ref _), (1, .int _), (2, .int _), (3, .int _)]) [1, 2, 3, 0] rfl ?_
        exact hO74 _ _ _ _  hV
      · have hV := hV.2 c227
        refine kt_iconst (v := 0) C dX8_run_230 (by decide) ?_
        exact kt_iret C ⟨_, rfl, hV⟩ dX8_run_231
    · have hV := hV.2 c182
      refine kt_aload_n C dX8_run_185 rfl rfl ?_
      refine kt_iload C dX8_run_186 rfl ?_
      refine kt_iload_n C dX8_run_188 rfl rfl ?_
      refine kt_aload_n C dX8_run_189 rfl rfl ?_
      refine kt_get (ci := 8) C 26 (by decide) rfl rfl inlX8 (by decide) wd_141 rfl dX8_run_190 ?_
      refine kt_icmp_lt C 200 dX8_run_193 rfl (fun c193 => ?_) (fun c193 => ?_)
      · have hV := hV.1 c193
        refine kt_iconst (v := 0) C dX8_run_200 (by decide) ?_
        refine kt_callV (n := 2) C (w_X8_join  hV) (by decide) rfl rfl wd_500 wd_501 wd_502 wd_5 wd_503 hd_X8_join rfl ⟨Nat.le_of_ble_eq_true rfl, Nat.le_of_ble_eq_true rfl⟩ ⟨Nat.zero_le _, Nat.zero_le _⟩ rfl (Nat.le_of_ble_eq_true rfl) dX8_run_201 (fun r m11 hE => ?_)
        obtain ⟨v12, rfl, hV⟩ := hE
        refine kt_sti ?_
        refine kt_if_ne C 212 dX8_run_204 rfl (fun c204 => ?_) (fun c204 => ?_)
        · have hV := hV.1 c204
          refine kt_iconst (v := 1) C dX8_run_212 (by decide) ?_
          refine kt_goto C 217 dX8_run_213 rfl ?_
          refine kt_istore (lv' := [(4, .int _), (0, .ref _), (1, .int _), (2, .int _), (3, .int _), (5, .int _)]) C dX8_run_217 (by decide) rfl ?_
          refine kt_iinc (v := _ + 1) (lv' := [(5, .int _), (4, .int _), (0, .ref _), (1, .int _), (2, .int _), (3, .int _)]) C dX8_run_219 rfl rfl (by decide) rfl ?_
          refine kt_goto C 176 dX8_run_222 rfl ?_
          refine kt_pick (lv' := [(0, .ref _), (1, .int _), (2, .int _), (3, .int _), (4, .int _), (5, .int _)]) [2, 3, 4, 5, 1, 0] rfl ?_
          exact ih  hV
        · have hV := hV.2 c204
          refine kt_iload C dX8_run_207 rfl ?_
          refine kt_if_eq C 216 dX8_run_209 rfl (fun c209 => ?_) (fun c209 => ?_)
          · have hV := hV.1 c209
            refine kt_iconst (v := 0) C dX8_run_216 (by decide) ?_
            refine kt_istore (lv' := [(4, .int _), (0, .ref _), (1, .int _), (2, .int _), (3, .int _), (5, .int _)]) C dX8_run_217 (by decide) rfl ?_
            refine kt_iinc (v := _ + 1) (lv' := [(5, .int _), (4, .int _), (0, .ref _), (1, .int _), (2, .int _), (3, .int _)]) C dX8_run_219 rfl rfl (by decide) rfl ?_
            refine kt_goto C 176 dX8_run_222 rfl ?_
            refine kt_pick (lv' := [(0, .ref _), (1, .int _), (2, .int _), (3, .int _), (4, .int _), (5, .int _)]) [2, 3, 4, 5, 1, 0] rfl ?_
            exact ih  hV
          · have hV := hV.2 c209
            refine kt_iconst (v := 1) C dX8_run_212 (by decide) ?_
            refine kt_goto C 217 dX8_run_213 rfl ?_
            refine kt_istore (lv' := [(4, .int _), (0, .ref _), (1, .int _), (2, .int _), (3, .int _), (5, .int _)]) C dX8_run_217 (by decide) rfl ?_
            refine kt_iinc (v := _ + 1) (lv' := [(5, .int _), (4, .int _), (0, .ref _), (1, .int _), (2, .int _), (3, .int _)]) C dX8_run_219 rfl rfl (by decide) rfl ?_
            refine kt_goto C 176 dX8_run_222 rfl ?_
            refine kt_pick (lv' := [(0, .ref _), (1, .int _), (2, .int _), (3, .int _), (4, .int _), (5, .int _)]) [2, 3, 4, 5, 1, 0] rfl ?_
            exact ih  hV
      · have hV := hV.2 c193
        refine kt_iconst (v := 1) C dX8_run_196 (by decide) ?_
        refine kt_goto C 201 dX8_run_197 rfl ?_
        refine kt_callV (n := 2) C (w_X8_join  hV) (by decide) rfl rfl wd_500 wd_501 wd_502 wd_5 wd_503 hd_X8_join rfl ⟨Nat.le_of_ble_eq_true rfl, Nat.le_of_ble_eq_true rfl⟩ ⟨Nat.zero_le _, Nat.zero_le _⟩ rfl (Nat.le_of_ble_eq_true rfl) dX8_run_201 (fun r m13 hE => ?_)
        obtain ⟨v14, rfl, hV⟩ := hE
        refine kt_sti ?_
        refine kt_if_ne C 212 dX8_run_204 rfl (fun c204 => ?_) (fun c204 => ?_)
        · have hV := hV.1 c204
          refine kt_iconst (v := 1) C dX8_run_212 (by decide) ?_
          refine kt_goto C 217 dX8_run_213 rfl ?_
          refine kt_istore (lv' := [(4, .int _), (0, .ref _), (1, .int _), (2, .int _), (3, .int _), (5, .int _)]) C dX8_run_217 (by decide) rfl ?_
          refine kt_iinc (v := _ + 1) (lv' := [(5, .int _), (4, .int _), (0, .ref _), (1, .int _), (2, .int _), (3, .int _)]) C dX8_run_219 rfl rfl (by decide) rfl ?_
          refine kt_goto C 176 dX8_run_222 rfl ?_
          refine kt_pick (lv' := [(0, .ref _), (1, .int _), (2, .int _), (3, .int _), (4, .int _), (5, .int _)]) [2, 3, 4, 5, 1, 0] rfl ?_
          exact ih  hV
        · have hV := hV.2 c204
          refine kt_iload C dX8_run_207 rfl ?_
          refine kt_if_eq C 216 dX8_run_209 rfl (fun c209 => ?_) (fun c209 => ?_)
          · have hV := hV.1 c209
            refine kt_iconst (v := 0) C dX8_run_216 (by decide) ?_
            refine kt_istore (lv' := [(4, .int _), (0, .ref _), (1, .int _), (2, .int _), (3, .int _), (5, .int _)]) C dX8_run_217 (by decide) rfl ?_
            refine kt_iinc (v := _ + 1) (lv' := [(5, .int _), (4, .int _), (0, .ref _), (1, .int _), (2, .int _), (3, .int _)]) C dX8_run_219 rfl rfl (by decide) rfl ?_
            refine kt_goto C 176 dX8_run_222 rfl ?_
            refine kt_pick (lv' := [(0, .ref _), (1, .int _), (2, .int _), (3, .int _), (4, .int _), (5, .int _)]) [2, 3, 4, 5, 1, 0] rfl ?_
            exact ih  hV
          · have hV := hV.2 c209
            refine kt_iconst (v := 1) C dX8_run_212 (by decide) ?_
            refine kt_goto C 217 dX8_run_213 rfl ?_
            refine kt_istore (lv' := [(4, .int _), (0, .ref _), (1, .int _), (2, .int _), (3, .int _), (5, .int _)]) C dX8_run_217 (by decide) rfl ?_
            refine kt_iinc (v := _ + 1) (lv' := [(5, .int _), (4, .int _), (0, .ref _), (1, .int _), (2, .int _), (3, .int _)]) C dX8_run_219 rfl rfl (by decide) rfl ?_
            refine kt_goto C 176 dX8_run_222 rfl ?_
            refine kt_pick (lv' := [(0, .ref _), (1, .int _), (2, .int _), (3, .int _), (4, .int _), (5, .int _)]) [2, 3, 4, 5, 1, 0] rfl ?_
            exact ih  hV
set_option maxHeartbeats 4000000 in
set_option maxRecDepth 100000 in
theorem w_X8_run_91 {p : Program} {l : Launch} {e : Env} {s : State} {mi : MethodId} {args : Array Value} {below : List Frame} {meth : Method} {c : Code} {g : GG} {O74 : Int32 → Int32 → Int32 → MW → Prop} {K : Int32 → MW → Prop} (C : Cx p s mi args meth c cX8_run RX8 6 (some .int) g) (hO74 : ∀ (y1 : Int32) (y2 : Int32) (y3 : Int32) (m : MW), O74 y1 y2 y3 m → TT p l e { frames := 5, cells := 0, slots := 0, locals := 121 } s mi args below meth c 0 0 (MQ below (QE g (Ei K)) args s 0 0 (gA g)) g 6 m 74 [(0, .ref (gad g 22 0)), (1, .int (y1)), (2, .int (y2)), (3, .int (y3))] []) (n : Nat) : ∀ {y1 : Int32} {y2 : Int32} {y3 : Int32} {y4 : Int32} {m : MW}, V_X8_run_91 n  y1 y2 y3 y4 O74 m K → TT p l e { frames := 5, cells := 0, slots := 0, locals := 121 } s mi args below meth c 0 0 (MQ below (QE g (Ei K)) args s 0 0 (gA g)) g 6 m 91 [(0, .ref (gad g 22 0)), (1, .int (y1)), (2, .int (y2)), (3, .int (y3)), (4, .int (y4))] [] := by
  induction n with
  | zero => intros; rename_i hV; exact absurd hV (by simp [V_X8_run_91])
  | succ n ih =>
    intro y1 y2 y3 y4 m hV
    unfold V_X8_run_91 at hV
    refine kt_iload C dX8_run_91 rfl ?_
    refine kt_aload_n C dX8_run_93 rfl rfl ?_
    refine kt_get (ci := 8) C 2 (by decide) rfl rfl inlX8 (by decide) wd_159 rfl dX8_run_94 ?_
    refine kt_icmp_ge C 135 dX8_run_97 rfl (fun c97 => ?_) (fun c97 => ?_)
    · have hV := hV.1 c97
      refine kt_aload_n C dX8_run_135 rfl rfl ?_
      refine kt_get (ci := 8) C 31 (by decide) rfl rfl inlX8 (by decide) wd_448 rfl dX8_run_136 ?_
      refine kt_iload_n C dX8_run_139 rfl rfl ?_
      refine kt_iadd C dX8_run_140 ?_
      refine kt_aload_n C dX8_run_141 rfl rfl ?_
      refine kt_get (ci := 8) C 27 (by decide) rfl rfl inlX8 (by decide) wd_142 rfl dX8_run_142 ?_
      refine kt_icmp_le C 150 dX8_run_145 rfl (fun c145 => ?_) (fun c145 => ?_)
      · have hV := hV.1 c145
        refine kt_aload_n C dX8_run_150 rfl rfl ?_
        refine kt_dup C dX8_run_151 rfl ?_
        refine kt_get (ci := 8) C 31 (by decide) rfl rfl inlX8 (by decide) wd_448 rfl dX8_run_152 ?_
        refine kt_iload_n C dX8_run_155 rfl rfl ?_
        refine kt_iadd C dX8_run_156 ?_
        refine kt_put2 (ty := .int) C 31 rfl (by decide) wd_448 rfl (by decide +kernel) rfl rfl (Nat.le_of_ble_eq_true rfl) (ep2_31 _ _ _) dX8_run_157 (fun m9 hm9 => ?_)
        have hV := hV m9 hm9
        refine kt_aload_n C dX8_run_160 rfl rfl ?_
        refine kt_dup C dX8_run_161 rfl ?_
        refine kt_get (ci := 8) C 28 (by decide) rfl rfl inlX8 (by decide) wd_446 rfl dX8_run_162 ?_
        refine kt_iconst (v := 1) C dX8_run_165 (by decide) ?_
        refine kt_iadd C dX8_run_166 ?_
        refine kt_put2 (ty := .int) C 28 rfl (by decide) wd_446 rfl (by decide +kernel) rfl rfl (Nat.le_of_ble_eq_true rfl) (ep2_28 _ _ _) dX8_run_167 (fun m10 hm10 => ?_)
        have hV := hV m10 hm10
        refine kt_iconst (v := 0) C dX8_run_170 (by decide) ?_
        refine kt_istore (lv' := [(4, .int _), (0, .ref _), (1, .int _), (2, .int _), (3, .int _)]) C dX8_run_171 (by decide) rfl ?_
        refine kt_iconst (v := 0) C dX8_run_173 (by decide) ?_
        refine kt_istore (lv' := [(5, .int _), (4, .int _), (0, .ref _), (1, .int _), (2, .int _), (3, .int _)]) C dX8_run_174 (by decide) rfl ?_
        obtain ⟨k, hV⟩ := hV
        refine kt_pick (lv' := [(0, .ref _), (1, .int _), (2, .int _), (3, .int _), (4, .int _), (5, .int _)]) [2, 3, 4, 5, 1, 0] rfl ?_
        exact w_X8_run_176 C  hO74 k hV
      · have hV := hV.2 c145
        refine kt_iconst (v := 4) C dX8_run_148 (by decide) ?_
        exact kt_iret C ⟨_, rfl, hV⟩ dX8_run_149
    · have hV := hV.2 c97
      refine kt_aload_n C dX8_run_100 rfl rfl ?_
      refine kt_get (ci := 8) C 14 (by decide) rfl rfl inlX8 (by decide) wd_132 rfl dX8_run_101 ?_
      refine kt_iload C dX8_run_104 rfl ?_
      refine kt_iald C (by decide) rfl hV.1 dX8_run_106 ?_
      have hV := hV.2
      refine kt_if_le C 129 dX8_run_107 rfl (fun c107 => ?_) (fun c107 => ?_)
      · have hV := hV.1 c107
        refine kt_iinc (v := _ + 1) (lv' := [(4, .int _), (0, .ref _), (1, .int _), (2, .int _), (3, .int _)]) C dX8_run_129 rfl rfl (by decide) rfl ?_
        refine kt_goto C 91 dX8_run_132 rfl ?_
        refine kt_pick (lv' := [(0, .ref _), (1, .int _), (2, .int _), (3, .int _), (4, .int _)]) [1, 2, 3, 4, 0] rfl ?_
        exact ih  hV
      · have hV := hV.2 c107
        refine kt_aload_n C dX8_run_110 rfl rfl ?_
        refine kt_iload C dX8_run_111 rfl ?_
        refine kt_put2 (ty := .int) C 29 rfl (by decide) wd_143 rfl (by decide +kernel) rfl rfl (Nat.le_of_ble_eq_true rfl) (ep2_29 _ _ _) dX8_run_113 (fun m15 hm15 => ?_)
        have hV := hV m15 hm15
        refine kt_aload_n C dX8_run_116 rfl rfl ?_
        refine kt_aload_n C dX8_run_117 rfl rfl ?_
        refine kt_get (ci := 8) C 14 (by decide) rfl rfl inlX8 (by decide) wd_132 rfl dX8_run_118 ?_
        refine kt_iload C dX8_run_121 rfl ?_
        refine kt_iald C (by decide) rfl hV.1 dX8_run_123 ?_
        have hV := hV.2
        refine kt_put2 (ty := .int) C 30 rfl (by decide) wd_447 rfl (by decide +kernel) rfl rfl (Nat.le_of_ble_eq_true rfl) (ep2_30 _ _ _) dX8_run_124 (fun m16 hm16 => ?_)
        have hV := hV m16 hm16
        refine kt_iconst (v := 2) C dX8_run_127 (by decide) ?_
        exact kt_iret C ⟨_, rfl, hV⟩ dX8_run_128
set_option maxHeartbeats 4000000 in
set_option maxRecDepth 100000 in
theorem w_X8_run_74 {p : Program} {l : Launch} {e : Env} {s : State} {mi : MethodId} {args : Array Value} {below : List Frame} {meth : Method} {c : Code} {g : GG} {K : Int32 → MW → Prop} (C : Cx p s mi args meth c cX8_run RX8 6 (some .int) g) (n : Nat) : ∀ {y1 : Int32} {y2 : Int32} {y3 : Int32} {m : MW}, V_X8_run_74 n  y1 y2 y3 m K → TT p l e { frames := 5, cells := 0, slots := 0, locals := 121 } s mi args below meth c 0 0 (MQ below (QE g (Ei K)) args s 0 0 (gA g)) g 6 m 74 [(0, .ref (gad g 22 0)), (1, .int (y1)), (2, .int (y2)), (3, .int (y3))] [] := by
  induction n with
  | zero => intros; rename_i hV; exact absurd hV (by simp [V_X8_run_74])
  | succ n ih =>
    intro y1 y2 y3 m hV
    unfold V_X8_run_74 at hV
    refine kt_iload_n C dX8_run_74 rfl rfl ?_
    refine kt_iload_n C dX8_run_75 rfl rfl ?_
    refine kt_icmp_gt C 238 dX8_run_76 rfl (fun c76 => ?_) (fun c76 => ?_)
    · have hV := hV.1 c76
      refine kt_iconst (v := 1) C dX8_run_238 (by decide) ?_
      exact kt_iret C ⟨_, rfl, hV⟩ dX8_run_239
    · have hV := hV.2 c76
      refine kt_aload_n C dX8_run_79 rfl rfl ?_
      refine kt_callV (n := 0) C (w_X8_round  hV) (by decide) rfl rfl wd_451 wd_452 wd_453 wd_5 wd_454 hd_X8_round rfl ⟨Nat.le_of_ble_eq_true rfl, Nat.le_of_ble_eq_true rfl⟩ ⟨Nat.zero_le _, Nat.zero_le _⟩ rfl (Nat.le_of_ble_eq_true rfl) dX8_run_80 (fun r m7 hE => ?_)
      obtain ⟨v8, rfl, hV⟩ := hE
      refine kt_sti ?_
      refine kt_if_ne C 88 dX8_run_83 rfl (fun c83 => ?_) (fun c83 => ?_)
      · have hV := hV.1 c83
        refine kt_iconst (v := 0) C dX8_run_88 (by decide) ?_
        refine kt_istore (lv' := [(4, .int _), (0, .ref _), (1, .int _), (2, .int _), (3, .int _)]) C dX8_run_89 (by decide) rfl ?_
        obtain ⟨k, hV⟩ := hV
        refine kt_pick (lv' := [(0, .ref _), (1, .int _), (2, .int _), (3, .int _), (4, .int _)]) [1, 2, 3, 4, 0] rfl ?_
        exact w_X8_run_91 C  (fun _ _ _  _ hV => ih hV) k hV
      · have hV := hV.2 c83
        refine kt_iconst (v := 3) C dX8_run_86 (by decide) ?_
        exact kt_iret C ⟨_, rfl, hV⟩ dX8_run_87
set_option maxHeartbeats 4000000 in
set_option maxRecDepth 100000 in
theorem w_X8_run_49 {p : Program} {l : Launch} {e : Env} {s : State} {mi : MethodId} {args : Array Value} {below : List Frame} {meth : Method} {c : Code} {g : GG} {K : Int32 → MW → Prop} (C : Cx p s mi args meth c cX8_run RX8 6 (some .int) g) (n : Nat) : ∀ {y1 : Int32} {y2 : Int32} {y3 : Int32} {m : MW}, V_X8_run_49 n  y1 y2 y3 m K → TT p l e { frames := 5, cells := 0, slots := 0, locals := 121 } s mi args below meth c 0 0 (MQ below (QE g (Ei K)) args s 0 0 (gA g)) g 6 m 49 [(0, .ref (gad g 22 0)), (1, .int (y1)), (2, .int (y2)), (3, .int (y3))] [] := by
  induction n with
  | zero => intros; rename_i hV; exact absurd hV (by simp [V_X8_run_49])
  | succ n ih =>
    intro y1 y2 y3 m hV
    unfold V_X8_run_49 at hV
    refine kt_iload_n C dX8_run_49 rfl rfl ?_
    refine kt_aload_n C dX8_run_50 rfl rfl ?_
    refine kt_get (ci := 8) C 2 (by decide) rfl rfl inlX8 (by decide) wd_159 rfl dX8_run_51 ?_
    refine kt_icmp_ge C 72 dX8_run_54 rfl (fun c54 => ?_) (fun c54 => ?_)
    · have hV := hV.1 c54
      refine kt_iconst (v := 1) C dX8_run_72 (by decide) ?_
      refine kt_istore_n (lv' := [(3, .int _), (0, .ref _), (1, .int _), (2, .int _)]) C dX8_run_73 rfl (by decide) rfl ?_
      obtain ⟨k, hV⟩ := hV
      refine kt_pick (lv' := [(0, .ref _), (1, .int _), (2, .int _), (3, .int _)]) [1, 2, 3, 0] rfl ?_
      exact w_X8_run_74 C  k hV
    · have hV := hV.2 c54
      refine kt_iload_n C dX8_run_57 rfl rfl ?_
      refine kt_aload_n C dX8_run_58 rfl rfl ?_
      refine kt_get (ci := 8) C 4 (by decide) rfl rfl inlX8 (by decide) wd_122 rfl dX8_run_59 ?_
      refine kt_iload_n C dX8_run_62 rfl rfl ?_
      refine kt_iald C (by decide) rfl hV.1 dX8_run_63 ?_
      have hV := hV.2
      refine kt_iadd C dX8_run_64 ?_
      refine kt_istore_n (lv' := [(2, .int _), (0, .ref _), (1, .int _), (3, .int _)]) C dX8_run_65 rfl (by decide) rfl ?_
      refine kt_iinc (v := _ + 1) (lv' := [(3, .int _), (2, .int _), (0, .ref _), (1, .int _)]) C dX8_run_66 rfl rfl (by decide) rfl ?_
      refine kt_goto C 49 dX8_run_69 rfl ?_
      refine kt_pick (lv' := [(0, .ref _), (1, .int _), (2, .int _), (3, .int _)]) [2, 3, 1, 0] rfl ?_
      exact ih  hV
set_option maxHeartbeats 4000000 in
set_option maxRecDepth 100000 in
theorem w_X8_run {l : Launch} {g : GG} {x1 : Int32} {m : MW} {K : Int32 → MW → Prop} (hV : V_X8_run  x1 m K) : Ct l yX8_run cX8_run 6 (some .int) 5 121 [.ref (gad g 22 0), .int x1] g m (Ei K) := by
  refine ct_intro RX8 (by decide) rfl (Nat.le_of_ble_eq_true rfl) ?_
  intro p e s mi below meth c C
  unfold V_X8_run at hV
  refine kt_iload_n C dX8_run_0 rfl rfl ?_
  refine kt_iconst (v := 1) C dX8_run_1 (by decide) ?_
  refine kt_icmp_lt C 11 dX8_run_2 rfl (fun c2 => ?_) (fun c2 => ?_)
  · have hV := hV.1 c2
    refine kt_ldc (v := (-2000002)) C wd_187 dX8_run_11 ?_
    exact kt_iret C ⟨_, rfl, hV⟩ dX8_run_13
  · have hV := hV.2 c2
    refine kt_iload_n C dX8_run_5 rfl rfl ?_
    refine kt_bipush (v := 10) C dX8_run_6 (by decide) ?_
    refine kt_icmp_le C 14 dX8_run_8 rfl (fun c8 => ?_) (fun c8 => ?_)
    · have hV := hV.1 c8
      refine kt_aload_n C dX8_run_14 rfl rfl ?_
      refine kt_iconst (v := 0) C dX8_run_15 (by decide) ?_
      refine kt_put2 (ty := .int) C 28 rfl (by decide) wd_446 rfl (by decide +kernel) rfl rfl (Nat.le_of_ble_eq_true rfl) (ep2_28 _ _ _) dX8_run_16 (fun m1 hm1 => ?_)
      have hV := hV m1 hm1
      refine kt_aload_n C dX8_run_19 rfl rfl ?_
      refine kt_ldc (v := (-2000000)) C wd_139 dX8_run_20 ?_
      refine kt_put2 (ty := .int) C 29 rfl (by decide) wd_143 rfl (by decide +kernel) rfl rfl (Nat.le_of_ble_eq_true rfl) (ep2_29 _ _ _) dX8_run_22 (fun m2 hm2 => ?_)
      have hV := hV m2 hm2
      refine kt_aload_n C dX8_run_25 rfl rfl ?_
      refine kt_iconst (v := 0) C dX8_run_26 (by decide) ?_
      refine kt_put2 (ty := .int) C 30 rfl (by decide) wd_447 rfl (by decide +kernel) rfl rfl (Nat.le_of_ble_eq_true rfl) (ep2_30 _ _ _) dX8_run_27 (fun m3 hm3 => ?_)
      have hV := hV m3 hm3
      refine kt_aload_n C dX8_run_30 rfl rfl ?_
      refine kt_iconst (v := 0) C dX8_run_31 (by decide) ?_
      refine kt_put2 (ty := .int) C 31 rfl (by decide) wd_448 rfl (by decide +kernel) rfl rfl (Nat.le_of_ble_eq_true rfl) (ep2_31 _ _ _) dX8_run_32 (fun m4 hm4 => ?_)
      have hV := hV m4 hm4
      refine kt_aload_n C dX8_run_35 rfl rfl ?_
      refine kt_iconst (v := 0) C dX8_run_36 (by decide) ?_
      refine kt_put2 (ty := .int) C 32 rfl (by decide) wd_449 rfl (by decide +kernel) rfl rfl (Nat.le_of_ble_eq_true rfl) (ep2_32 _ _ _) dX8_run_37 (fun m5 hm5 => ?_)
      have hV := hV m5 hm5
      refine kt_aload_n C dX8_run_40 rfl rfl ?_
      refine kt_iconst (v := 0) C dX8_run_41 (by decide) ?_
      refine kt_put2 (ty := .int) C 33 rfl (by decide) wd_450 rfl (by decide +kernel) rfl rfl (Nat.le_of_ble_eq_true rfl) (ep2_33 _ _ _) dX8_run_42 (fun m6 hm6 => ?_)
      have hV := hV m6 hm6
      refine kt_iconst (v := 0) C dX8_run_45 (by decide) ?_
      refine kt_istore_n (lv' := [(2, .int _), (0, .ref _), (1, .int _)]) C dX8_run_46 rfl (by decide) rfl ?_
      refine kt_iconst (v := 0) C dX8_run_47 (by decide) ?_
      refine kt_istore_n (lv' := [(3, .int _), (2, .int _), (0, .ref _), (1, .int _)]) C dX8_run_48 rfl (by decide) rfl ?_
      obtain ⟨k, hV⟩ := hV
      refine kt_pick (lv' := [(0, .ref _), (1, .int _), (2, .int _), (3, .int _)]) [2, 3, 1, 0] rfl ?_
      exact w_X8_run_49 C  k hV
    · have hV := hV.2 c8
      refine kt_ldc (v := (-2000002)) C wd_187 dX8_run_11 ?_
      exact kt_iret C ⟨_, rfl, hV⟩ dX8_run_13
theorem hd_X8_told : yX8_told.cls = RX8 ∧ yX8_told.cls ≠ "java/lang/invoke/MethodHandle" ∧ yX8_told.cls ≠ "java/lang/invoke/VarHandle" ∧ (parseMethodDescriptor yX8_told.desc).map (fun d => d.parameters.length) = some 1 := by decide +kernel
def V_X8_told (x1 : Int32) (m : MW) (K : Int32 → MW → Prop) : Prop := ((((x1 : Int32).toInt < 0 ∨ 9 < (x1 : Int32).toInt) → (K (-2000002) m)) ∧ ((x1 = 0 → (K (m.2 22 28) m)) ∧ ((x1 = 1 → (K (m.2 22 29) m)) ∧ ((x1 = 2 → (K (m.2 22 30) m)) ∧ ((x1 = 3 → (K (m.2 22 31) m)) ∧ ((x1 = 4 → (K (m.2 22 32) m)) ∧ ((x1 = 5 → (K (m.2 22 33) m)) ∧ ((x1 = 6 → (K (m.2 22 23) m)) ∧ ((x1 = 7 → (V_X8_workersLeft   m (fun v2 m1 => (K v2 m1)))) ∧ ((x1 = 8 → (K (m.2 22 2) m)) ∧ (x1 = 9 → (K (m.2 22 25) m))))))))))))
set_option maxHeartbeats 4000000 in
set_option maxRecDepth 100000 in
theorem w_X8_told {l : Launch} {g : GG} {x1 : Int32} {m : MW} {K : Int32 → MW → Prop} (hV : V_X8_told  x1 m K) : Ct l yX8_told cX8_told 2 (some .int) 1 22 [.ref (gad g 22 0), .int x1] g m (Ei K) := by
  refine ct_intro RX8 (by decide) rfl (Nat.le_of_ble_eq_true rfl) ?_
  intro p e s mi below meth c C
  unfold V_X8_told at hV
  refine kt_iload_n C dX8_told_0 rfl rfl ?_
  by_cases c1 : ((x1 : Int32).toInt < 0 ∨ 9 < (x1 : Int32).toInt)
  · have hV := hV.1 c1
    refine kt_tableOut C 106 dX8_told_1 c1 rfl ?_
    refine kt_ldc (v := (-2000002)) C wd_187 dX8_told_106 ?_
    exact kt_iret C ⟨_, rfl, hV⟩ dX8_told_108
  · have hV := hV.2
    have c1a := fun h => c1 (Or.inl h)
    have c1b := fun h => c1 (Or.inr h)
    have c1c := sw_0_9 c1a c1b
    rcases c1c with c1d | c1d | c1d | c1d | c1d | c1d | c1d | c1d | c1d | c1d
    · have hV := hV.1 c1d
      refine kt_tableIn C 56 dX8_told_1 c1a c1b (by rw [c1d]; rfl) rfl ?_
      refine kt_aload_n C dX8_told_56 rfl rfl ?_
      refine kt_get (ci := 8) C 28 (by decide) rfl rfl inlX8 (by decide) wd_446 rfl dX8_told_57 ?_
      exact kt_iret C ⟨_, rfl, hV⟩ dX8_told_60
    · have hV := hV.2.1 c1d
      refine kt_tableIn C 61 dX8_told_1 c1a c1b (by rw [c1d]; rfl) rfl ?_
      refine kt_aload_n C dX8_told_61 rfl rfl ?_
      refine kt_get (ci := 8) C 29 (by decide) rfl rfl inlX8 (by decide) wd_143 rfl dX8_told_62 ?_
      exact kt_iret C ⟨_, rfl, hV⟩ dX8_told_65
    · have hV := hV.2.2.1 c1d
      refine kt_tableIn C 66 dX8_told_1 c1a c1b (by rw [c1d]; rfl) rfl ?_
      refine kt_aload_n C dX8_told_66 rfl rfl ?_
      refine kt_get (ci := 8) C 30 (by decide) rfl rfl inlX8 (by decide) wd_447 rfl dX8_told_67 ?_
      exact kt_iret C ⟨_, rfl, hV⟩ dX8_told_70
    · have hV := hV.2.2.2.1 c1d
      refine kt_tableIn C 71 dX8_told_1 c1a c1b (by rw [c1d]; rfl) rfl ?_
      refine kt_aload_n C dX8_told_71 rfl rfl ?_
      refine kt_get (ci := 8) C 31 (by decide) rfl rfl inlX8 (by decide) wd_448 rfl dX8_told_72 ?_
      exact kt_iret C ⟨_, rfl, hV⟩ dX8_told_75
    · have hV := hV.2.2.2.2.1 c1d
      refine kt_tableIn C 76 dX8_told_1 c1a c1b (by rw [c1d]; rfl) rfl ?_
      refine kt_aload_n C dX8_told_76 rfl rfl ?_
      refine kt_get (ci := 8) C 32 (by decide) rfl rfl inlX8 (by decide) wd_449 rfl dX8_told_77 ?_
      exact kt_iret C ⟨_, rfl, hV⟩ dX8_told_80
    · have hV := hV.2.2.2.2.2.1 c1d
      refine kt_tableIn C 81 dX8_told_1 c1a c1b (by rw [c1d]; rfl) rfl ?_
      refine kt_aload_n C dX8_told_81 rfl rfl ?_
      refine kt_get (ci := 8) C 33 (by decide) rfl rfl inlX8 (by decide) wd_450 rfl dX8_told_82 ?_
      exact kt_iret C ⟨_, rfl, hV⟩ dX8_told_85
    · have hV := hV.2.2.2.2.2.2.1 c1d
      refine kt_tableIn C 86 dX8_told_1 c1a c1b (by rw [c1d]; rfl) rfl ?_
      refine kt_aload_n C dX8_told_86 rfl rfl ?_
      refine kt_get (ci := 8) C 23 (by decide) rfl rfl inlX8 (by decide) wd_465 rfl dX8_told_87 ?_
      exact kt_iret C ⟨_, rfl, hV⟩ dX8_told_90
    · have hV := hV.2.2.2.2.2.2.2.1 c1d
      refine kt_tableIn C 91 dX8_told_1 c1a c1b (by rw [c1d]; rfl) rfl ?_
      refine kt_aload_n C dX8_told_91 rfl rfl ?_
      refine kt_callV (n := 0) C (w_X8_workersLeft  hV) (by decide) rfl rfl wd_231 wd_232 wd_233 wd_5 wd_234 hd_X8_workersLeft rfl ⟨Nat.le_of_ble_eq_true rfl, Nat.le_of_ble_eq_true rfl⟩ ⟨Nat.zero_le _, Nat.zero_le _⟩ rfl (Nat.le_of_ble_eq_true rfl) dX8_told_92 (fun r m1 hE => ?_)
      obtain ⟨v2, rfl, hV⟩ := hE
      refine kt_sti ?_
      exact kt_iret C ⟨_, rfl, hV⟩ dX8_told_95
    · have hV := hV.2.2.2.2.2.2.2.2.1 c1d
      refine kt_tableIn C 96 dX8_told_1 c1a c1b (by rw [c1d]; rfl) rfl ?_
      refine kt_aload_n C dX8_told_96 rfl rfl ?_
      refine kt_get (ci := 8) C 2 (by decide) rfl rfl inlX8 (by decide) wd_159 rfl dX8_told_97 ?_
      exact kt_iret C ⟨_, rfl, hV⟩ dX8_told_100
    · have hV := hV.2.2.2.2.2.2.2.2.2 c1d
      refine kt_tableIn C 101 dX8_told_1 c1a c1b (by rw [c1d]; rfl) rfl ?_
      refine kt_aload_n C dX8_told_101 rfl rfl ?_
      refine kt_get (ci := 8) C 25 (by decide) rfl rfl inlX8 (by decide) wd_140 rfl dX8_told_102 ?_
      exact kt_iret C ⟨_, rfl, hV⟩ dX8_told_105
theorem hd_X8_doer : yX8_doer.cls = RX8 ∧ yX8_doer.cls ≠ "java/lang/invoke/MethodHandle" ∧ yX8_doer.cls ≠ "java/lang/invoke/VarHandle" ∧ (parseMethodDescriptor yX8_doer.desc).map (fun d => d.parameters.length) = some 1 := by decide +kernel
def V_X8_doer (x1 : Int32) (m : MW) (K : Int32 → MW → Prop) : Prop := (V_X8_isShare  (x1) m (fun v2 m1 => ((v2 = 0 → (K (-2000001) m1)) ∧ (¬ v2 = 0 → (vp_in x1 10 ∧ (K (m1.2 45 (x1).toNatClampNeg) m1))))))
set_option maxHeartbeats 4000000 in
set_option maxRecDepth 100000 in
theorem w_X8_doer {l : Launch} {g : GG} {x1 : Int32} {m : MW} {K : Int32 → MW → Prop} (hV : V_X8_doer  x1 m K) : Ct l yX8_doer cX8_doer 2 (some .int) 1 21 [.ref (gad g 22 0), .int x1] g m (Ei K) := by
  refine ct_intro RX8 (by decide) rfl (Nat.le_of_ble_eq_true rfl) ?_
  intro p e s mi below meth c C
  unfold V_X8_doer at hV
  refine kt_aload_n C dX8_doer_0 rfl rfl ?_
  refine kt_iload_n C dX8_doer_1 rfl rfl ?_
  refine kt_callV (n := 1) C (w_X8_isShare  hV) (by decide) rfl rfl wd_188 wd_189 wd_190 wd_5 wd_191 hd_X8_isShare rfl ⟨Nat.le_of_ble_eq_true rfl, Nat.le_of_ble_eq_true rfl⟩ ⟨Nat.zero_le _, Nat.zero_le _⟩ rfl (Nat.le_of_ble_eq_true rfl) dX8_doer_2 (fun r m1 hE => ?_)
  obtain ⟨v2, rfl, hV⟩ := hE
  refine kt_sti ?_
  refine kt_if_eq C 17 dX8_doer_5 rfl (fun c5 => ?_) (fun c5 => ?_)
  · have hV := hV.1 c5
    refine kt_ldc (v := (-2000001)) C wd_158 dX8_doer_17 ?_
    exact kt_iret C ⟨_, rfl, hV⟩ dX8_doer_19
  · have hV := hV.2 c5
    refine kt_aload_n C dX8_doer_8 rfl rfl ?_
    refine kt_get (ci := 8) C 15 (by decide) rfl rfl inlX8 (by decide) wd_133 rfl dX8_doer_9 ?_
    refine kt_iload_n C dX8_doer_12 rfl rfl ?_
    refine kt_iald C (by decide) rfl hV.1 dX8_doer_13 ?_
    have hV := hV.2
    refine kt_goto C 19 dX8_doer_14 rfl ?_
    exact kt_iret C ⟨_, rfl, hV⟩ dX8_doer_19
theorem hd_X8_clear : yX8_clear.cls = RX8 ∧ yX8_clear.cls ≠ "java/lang/invoke/MethodHandle" ∧ yX8_clear.cls ≠ "java/lang/invoke/VarHandle" ∧ (parseMethodDescriptor yX8_clear.desc).map (fun d => d.parameters.length) = some 0 := by decide +kernel
def V_X8_clear_4 (n : Nat) (y1 : Int32) (y2 : Int32) (m : MW) (K : Int32 → MW → Prop) : Prop := match n with
  | 0 => False
  | n + 1 => ((10 ≤ y2 → (∀ m1 : MW, m1 = (m.1, up2 m.2 22 23 0) → (∀ m2 : MW, m2 = (m1.1, up2 m1.2 22 24 0) → (K y1 m2)))) ∧ (¬ 10 ≤ y2 → (vp_in y2 10 ∧ (vp_in y2 10 ∧ (((m.2 31 (y2).toNatClampNeg) < (m.2 30 (y2).toNatClampNeg) → (vp_in y2 10 ∧ ∀ m3 : MW, m3 = (m.1, up2 m.2 30 (y2).toNatClampNeg 1) → (vp_in y2 10 ∧ ∀ m4 : MW, m4 = (m3.1, up2 m3.2 31 (y2).toNatClampNeg 0) → (V_X8_clear_4 n  ((y1 + 0)) ((y2 + 1)) m4 K)))) ∧ (¬ (m.2 31 (y2).toNatClampNeg) < (m.2 30 (y2).toNatClampNeg) → (vp_in y2 10 ∧ ∀ m5 : MW, m5 = (m.1, up2 m.2 30 (y2).toNatClampNeg 1) → (vp_in y2 10 ∧ ∀ m6 : MW, m6 = (m5.1, up2 m5.2 31 (y2).toNatClampNeg 0) → (V_X8_clear_4 n  ((y1 + 1)) ((y2 + 1)) m6 K)))))))))
def V_X8_clear (m : MW) (K : Int32 → MW → Prop) : Prop := (∃ k : Nat, V_X8_clear_4 k  (0) (0) m K)
set_option maxHeartbeats 4000000 in
set_option maxRecDepth 100000 in
theorem w_X8_clear_4 {p : Program} {l : Launch} {e : Env} {s : State} {mi : MethodId} {args : Array Value} {below : List Frame} {meth : Method} {c : Code} {g : GG} {K : Int32 → MW → Prop} (C : Cx p s mi args meth c cX8_clear RX8 3 (some .int) g) (n : Nat) : ∀ {y1 : Int32} {y2 : Int32} {m : MW}, V_X8_clear_4 n  y1 y2 m K → TT p l e { frames := 0, cells := 0, slots := 0, locals := 0 } s mi args below meth c 0 0 (MQ below (QE g (Ei K)) args s 0 0 (gA g)) g 3 m 4 [(0, .ref (gad g 22 0)), (1, .int (y1)), (2, .int (y2))] [] := by
  induction n with
  | zero => intros; rename_i hV; exact absurd hV (by simp [V_X8_clear_4])
  | succ n ih =>
    intro y1 y2 m hV
    unfold V_X8_clear_4 at hV
    refine kt_iload_n C dX8_clear_4 rfl rfl ?_
    refine kt_bipush (v := 10) C dX8_clear_5 (by decide) ?_
    refine kt_icmp_ge C 53 dX8_clear_7 rfl (fun c7 => ?_) (fun c7 => ?_)
    · have hV := hV.1 c7
      refine kt_aload_n C dX8_clear_53 rfl rfl ?_
      refine kt_iconst (v := 0) C dX8_clear_54 (by decide) ?_
      refine kt_put2 (ty := .int) C 23 rfl (by decide) wd_465 rfl (by decide +kernel) rfl rfl (Nat.le_of_ble_eq_true rfl) (ep2_23 _ _ _) dX8_clear_55 (fun m1 hm1 => ?_)
      have hV := hV m1 hm1
      refine kt_aload_n C dX8_clear_58 rfl rfl ?_
      refine kt_iconst (v := 0) C dX8_clear_59 (by decide) ?_
      refine kt_put2 (ty := .int) C 24 rfl (by decide) wd_260 rfl (by decide +kernel) rfl rfl (Nat.le_of_ble_eq_true rfl) (ep2_24 _ _ _) dX8_clear_60 (fun m2 hm2 => ?_)
      have hV := hV m2 hm2
      refine kt_iload_n C dX8_clear_63 rfl rfl ?_
      exact kt_iret C ⟨_, rfl, hV⟩ dX8_clear_64
    · have hV := hV.2 c7
      refine kt_iload_n C dX8_clear_10 rfl rfl ?_
      refine kt_aload_n C dX8_clear_11 rfl rfl ?_
      refine kt_get (ci := 8) C 0 (by decide) rfl rfl inlX8 (by decide) wd_119 rfl dX8_clear_12 ?_
      refine kt_iload_n C dX8_clear_15 rfl rfl ?_
      refine kt_iald C (by decide) rfl hV.1 dX8_clear_16 ?_
      have hV := hV.2
      refine kt_aload_n C dX8_clear_17 rfl rfl ?_
      refine kt_get (ci := 8) C 1 (by decide) rfl rfl inlX8 (by decide) wd_120 rfl dX8_clear_18 ?_
      refine kt_iload_n C dX8_clear_21 rfl rfl ?_
      refine kt_iald C (by decide) rfl hV.1 dX8_clear_22 ?_
      have hV := hV.2
      refine kt_icmp_gt C 30 dX8_clear_23 rfl (fun c23 => ?_) (fun c23 => ?_)
      · have hV := hV.1 c23
        refine kt_iconst (v := 0) C dX8_clear_30 (by decide) ?_
        refine kt_iadd C dX8_clear_31 ?_
        refine kt_istore_n (lv' := [(1, .int _), (0, .ref _), (2, .int _)]) C dX8_clear_32 rfl (by decide) rfl ?_
        refine kt_aload_n C dX8_clear_33 rfl rfl ?_
        refine kt_get (ci := 8) C 0 (by decide) rfl rfl inlX8 (by decide) wd_119 rfl dX8_clear_34 ?_
        refine kt_iload_n C dX8_clear_37 rfl rfl ?_
        refine kt_iconst (v := 1) C dX8_clear_38 (by decide) ?_
        refine kt_iast2 C rfl rfl hV.1 (ea_30 _ _ _ _) dX8_clear_39 (fun m3 hm3 => ?_)
        have hV := hV.2 m3 hm3
        refine kt_aload_n C dX8_clear_40 rfl rfl ?_
        refine kt_get (ci := 8) C 1 (by decide) rfl rfl inlX8 (by decide) wd_120 rfl dX8_clear_41 ?_
        refine kt_iload_n C dX8_clear_44 rfl rfl ?_
        refine kt_iconst (v := 0) C dX8_clear_45 (by decide) ?_
        refine kt_iast2 C rfl rfl hV.1 (ea_31 _ _ _ _) dX8_clear_46 (fun m4 hm4 => ?_)
        have hV := hV.2 m4 hm4
        refine kt_iinc (v := _ + 1) (lv' := [(2, .int _), (1, .int _), (0, .ref _)]) C dX8_clear_47 rfl rfl (by decide) rfl ?_
        refine kt_goto C 4 dX8_clear_50 rfl ?_
        refine kt_pick (lv' := [(0, .ref _), (1, .int _), (2, .int _)]) [2, 1, 0] rfl ?_
        exact ih  hV
      · have hV := hV.2 c23
        refine kt_iconst (v := 1) C dX8_clear_26 (by decide) ?_
        refine kt_goto C 31 dX8_clear_27 rfl ?_
        refine kt_iadd C dX8_clear_31 ?_
        refine kt_istore_n (lv' := [(1, .int _), (0, .ref _), (2, .int _)]) C dX8_clear_32 rfl (by decide) rfl ?_
        refine kt_aload_n C dX8_clear_33 rfl rfl ?_
        refine kt_get (ci := 8) C 0 (by decide) rfl rfl inlX8 (by decide) wd_119 rfl dX8_clear_34 ?_
        refine kt_iload_n C dX8_clear_37 rfl rfl ?_
        refine kt_iconst (v := 1) C dX8_clear_38 (by decide) ?_
        refine kt_iast2 C rfl rfl hV.1 (ea_30 _ _ _ _) dX8_clear_39 (fun m5 hm5 => ?_)
        have hV := hV.2 m5 hm5
        refine kt_aload_n C dX8_clear_40 rfl rfl ?_
        refine kt_get (ci := 8) C 1 (by decide) rfl rfl inlX8 (by decide) wd_120 rfl dX8_clear_41 ?_
        refine kt_iload_n C dX8_clear_44 rfl rfl ?_
        refine kt_iconst (v := 0) C dX8_clear_45 (by decide) ?_
        refine kt_iast2 C rfl rfl hV.1 (ea_31 _ _ _ _) dX8_clear_46 (fun m6 hm6 => ?_)
        have hV := hV.2 m6 hm6
        refine kt_iinc (v := _ + 1) (lv' := [(2, .int _), (1, .int _), (0, .ref _)]) C dX8_clear_47 rfl rfl (by decide) rfl ?_
        refine kt_goto C 4 dX8_clear_50 rfl ?_
        refine kt_pick (lv' := [(0, .ref _), (1, .int _), (2, .int _)]) [2, 1, 0] rfl ?_
        exact ih  hV
set_option maxHeartbeats 4000000 in
set_option maxRecDepth 100000 in
theorem w_X8_clear {l : Launch} {g : GG} {m : MW} {K : Int32 → MW → Prop} (hV : V_X8_clear   m K) : Ct l yX8_clear cX8_clear 3 (some .int) 0 0 [.ref (gad g 22 0)] g m (Ei K) := by
  refine ct_intro RX8 (by decide) rfl (Nat.le_of_ble_eq_true rfl) ?_
  intro p e s mi below meth c C
  unfold V_X8_clear at hV
  refine kt_iconst (v := 0) C dX8_clear_0 (by decide) ?_
  refine kt_istore_n (lv' := [(1, .int _), (0, .ref _)]) C dX8_clear_1 rfl (by decide) rfl ?_
  refine kt_iconst (v := 0) C dX8_clear_2 (by decide) ?_
  refine kt_istore_n (lv' := [(2, .int _), (1, .int _), (0, .ref _)]) C dX8_clear_3 rfl (by decide) rfl ?_
  obtain ⟨k, hV⟩ := hV
  refine kt_pick (lv' := [(0, .ref _), (1, .int _), (2, .int _)]) [2, 1, 0] rfl ?_
  exact w_X8_clear_4 C  k hV
