theorem dfX0 : ∀ j, j < 6 → defaultValue (tyX0 j) = vp_V [.null, .null, .int 0, .null, .null, .null] j := by
  intro j hj
  rcases (show j = 0 ∨ j = 1 ∨ j = 2 ∨ j = 3 ∨ j = 4 ∨ j = 5 by omega) with rfl | rfl | rfl | rfl | rfl | rfl <;> rfl
theorem dfX1 : ∀ j, j < 5 → defaultValue (tyX1 j) = vp_V [.null, .int 0, .int 0, .int 0, .int 0] j := by
  intro j hj
  rcases (show j = 0 ∨ j = 1 ∨ j = 2 ∨ j = 3 ∨ j = 4 by omega) with rfl | rfl | rfl | rfl | rfl <;> rfl
theorem dfX2 : ∀ j, j < 3 → defaultValue (tyX2 j) = vp_V [.null, .null, .null] j := by
  intro j hj
  rcases (show j = 0 ∨ j = 1 ∨ j = 2 by omega) with rfl | rfl | rfl <;> rfl
theorem dfX3 : ∀ j, j < 3 → defaultValue (tyX3 j) = vp_V [.null, .int 0, .int 0] j := by
  intro j hj
  rcases (show j = 0 ∨ j = 1 ∨ j = 2 by omega) with rfl | rfl | rfl <;> rfl
theorem dfX4 : ∀ j, j < 9 → defaultValue (tyX4 j) = vp_V [.null, .null, .null, .int 0, .int 0, .int 0, .int 0, .int 0, .int 0] j := by
  intro j hj
  rcases (show j = 0 ∨ j = 1 ∨ j = 2 ∨ j = 3 ∨ j = 4 ∨ j = 5 ∨ j = 6 ∨ j = 7 ∨ j = 8 by omega) with rfl | rfl | rfl | rfl | rfl | rfl | rfl | rfl | rfl <;> rfl
theorem dfX5 : ∀ j, j < 6 → defaultValue (tyX5 j) = vp_V [.int 0, .int 0, .int 0, .int 0, .int 0, .int 0] j := by
  intro j hj
  rcases (show j = 0 ∨ j = 1 ∨ j = 2 ∨ j = 3 ∨ j = 4 ∨ j = 5 by omega) with rfl | rfl | rfl | rfl | rfl | rfl <;> rfl
theorem dfX6 : ∀ j, j < 6 → defaultValue (tyX6 j) = vp_V [.int 0, .null, .int 0, .int 0, .null, .int 0] j := by
  intro j hj
  rcases (show j = 0 ∨ j = 1 ∨ j = 2 ∨ j = 3 ∨ j = 4 ∨ j = 5 by omega) with rfl | rfl | rfl | rfl | rfl | rfl <;> rfl
theorem dfX7 : ∀ j, j < 9 → defaultValue (tyX7 j) = vp_V [.null, .null, .null, .null, .null, .int 0, .int 0, .int 0, .int 0] j := by
  intro j hj
  rcases (show j = 0 ∨ j = 1 ∨ j = 2 ∨ j = 3 ∨ j = 4 ∨ j = 5 ∨ j = 6 ∨ j = 7 ∨ j = 8 by omega) with rfl | rfl | rfl | rfl | rfl | rfl | rfl | rfl | rfl <;> rfl
theorem dfX8 : ∀ j, j < 34 → defaultValue (tyX8 j) = vp_V [.null, .null, .int 0, .null, .null, .null, .null, .null, .null, .null, .null, .null, .null, .null, .null, .null, .null, .null, .int 0, .int 0, .null, .null, .null, .int 0, .int 0, .int 0, .int 0, .int 0, .int 0, .int 0, .int 0, .int 0, .int 0, .int 0] j := by
  intro j hj
  rcases (show j = 0 ∨ j = 1 ∨ j = 2 ∨ j = 3 ∨ j = 4 ∨ j = 5 ∨ j = 6 ∨ j = 7 ∨ j = 8 ∨ j = 9 ∨ j = 10 ∨ j = 11 ∨ j = 12 ∨ j = 13 ∨ j = 14 ∨ j = 15 ∨ j = 16 ∨ j = 17 ∨ j = 18 ∨ j = 19 ∨ j = 20 ∨ j = 21 ∨ j = 22 ∨ j = 23 ∨ j = 24 ∨ j = 25 ∨ j = 26 ∨ j = 27 ∨ j = 28 ∨ j = 29 ∨ j = 30 ∨ j = 31 ∨ j = 32 ∨ j = 33 by omega) with rfl | rfl | rfl | rfl | rfl | rfl | rfl | rfl | rfl | rfl | rfl | rfl | rfl | rfl | rfl | rfl | rfl | rfl | rfl | rfl | rfl | rfl | rfl | rfl | rfl | rfl | rfl | rfl | rfl | rfl | rfl | rfl | rfl | rfl <;> rfl
theorem uhd_X2_init : yX2_init.cls ≠ "java/lang/invoke/MethodHandle" ∧ yX2_init.cls ≠ "java/lang/invoke/VarHandle" ∧ (parseMethodDescriptor yX2_init.desc).map (fun d => d.parameters.length) = some 0 := by decide +kernel
def U_X2_init (g : GG) (o : Nat) (n : Nat) (f : Nat → va_E) (K : Nat → (Nat → va_E) → Prop) : Prop := (∀ f1 : Nat → va_E, f1 = va_up f n (aI (gcZ g) 10 (fun _ => 0)) → (o < (n + 1) ∧ ∃ fs3 : List Value, f1 o = .inr (2, fs3) ∧ 0 < fs3.length ∧ ∀ f2 : Nat → va_E, f2 = va_up f1 o (.inr (2, fs3.set 0 (.ref (gbs g + n)))) → (∀ f4 : Nat → va_E, f4 = va_up f2 (n + 1) (aI (gcI g) 10 (fun _ => 0)) → (o < ((n + 1) + 1) ∧ ∃ fs6 : List Value, f4 o = .inr (2, fs6) ∧ 1 < fs6.length ∧ ∀ f5 : Nat → va_E, f5 = va_up f4 o (.inr (2, fs6.set 1 (.ref (gbs g + (n + 1))))) → (∀ f7 : Nat → va_E, f7 = va_up f5 ((n + 1) + 1) (aI (gcI g) 10 (fun _ => 0)) → (o < (((n + 1) + 1) + 1) ∧ ∃ fs9 : List Value, f7 o = .inr (2, fs9) ∧ 2 < fs9.length ∧ ∀ f8 : Nat → va_E, f8 = va_up f7 o (.inr (2, fs9.set 2 (.ref (gbs g + ((n + 1) + 1))))) → (K (((n + 1) + 1) + 1) f8)))))))
set_option maxHeartbeats 4000000 in
set_option maxRecDepth 100000 in
theorem u_X2_init {l : Launch} {g : GG} {o : Nat} {n : Nat} {f : Nat → va_E} {K : Nat → (Nat → va_E) → Prop} (hV : U_X2_init g o  n f K) : CtU l yX2_init cX2_init 1 1 12 3 30 [.ref (gbs g + o)] g n f K := by
  refine cu_intro RX2 (by decide) rfl (Nat.le_of_ble_eq_true rfl) ?_
  intro p e s mi below meth c C
  unfold U_X2_init at hV
  refine ku_aload_n C dX2_init_0 rfl rfl ?_
  refine ku_obj C wd_38 wd_10 wd_11 (Nat.le_of_ble_eq_true rfl) (Nat.le_of_ble_eq_true rfl) dX2_init_1 ?_
  refine ku_aload_n C dX2_init_4 rfl rfl ?_
  refine ku_bipush (v := 10) C dX2_init_5 (by decide) ?_
  refine ku_newa (a0 := (10, .inl (fun _ => 0))) (ty := .boolean) C 1 wd_39 rfl (fun _ h => by cases h) rfl (fun _ => rfl) (by decide) (by decide) (by decide) (Nat.le_of_ble_eq_true rfl) (Nat.le_of_ble_eq_true rfl) dX2_init_7 (fun f1 hf1 => ?_)
  have hV := hV f1 hf1
  obtain ⟨hof2, fs3, hef2, hlf2, hV⟩ := hV
  refine ku_putF (ci := 2) (ty := (.array .boolean)) C 0 tyX2 hof2 hef2 rfl inlX2 tyX2_ok nmX2 (by decide) wd_40 rfl rfl (by decide +kernel) rfl rfl hlf2 dX2_init_9 (fun f2 hf2 => ?_)
  have hV := hV f2 hf2
  refine ku_aload_n C dX2_init_12 rfl rfl ?_
  refine ku_bipush (v := 10) C dX2_init_13 (by decide) ?_
  refine ku_newa (a0 := (10, .inl (fun _ => 0))) (ty := .int) C 0 wd_41 rfl (fun _ h => by cases h) rfl (fun _ => rfl) (by decide) (by decide) (by decide) (Nat.le_of_ble_eq_true rfl) (Nat.le_of_ble_eq_true rfl) dX2_init_15 (fun f4 hf4 => ?_)
  have hV := hV f4 hf4
  obtain ⟨hof5, fs6, hef5, hlf5, hV⟩ := hV
  refine ku_putF (ci := 2) (ty := (.array .int)) C 1 tyX2 hof5 hef5 rfl inlX2 tyX2_ok nmX2 (by decide) wd_42 rfl rfl (by decide +kernel) rfl rfl hlf5 dX2_init_17 (fun f5 hf5 => ?_)
  have hV := hV f5 hf5
  refine ku_aload_n C dX2_init_20 rfl rfl ?_
  refine ku_bipush (v := 10) C dX2_init_21 (by decide) ?_
  refine ku_newa (a0 := (10, .inl (fun _ => 0))) (ty := .int) C 0 wd_41 rfl (fun _ h => by cases h) rfl (fun _ => rfl) (by decide) (by decide) (by decide) (Nat.le_of_ble_eq_true rfl) (Nat.le_of_ble_eq_true rfl) dX2_init_23 (fun f7 hf7 => ?_)
  have hV := hV f7 hf7
  obtain ⟨hof8, fs9, hef8, hlf8, hV⟩ := hV
  refine ku_putF (ci := 2) (ty := (.array .int)) C 2 tyX2 hof8 hef8 rfl inlX2 tyX2_ok nmX2 (by decide) wd_43 rfl rfl (by decide +kernel) rfl rfl hlf8 dX2_init_25 (fun f8 hf8 => ?_)
  have hV := hV f8 hf8
  exact ku_vret C (Nat.le_of_ble_eq_true rfl) (Nat.le_of_ble_eq_true rfl) hV dX2_init_28
theorem uhd_X3_init : yX3_init.cls ≠ "java/lang/invoke/MethodHandle" ∧ yX3_init.cls ≠ "java/lang/invoke/VarHandle" ∧ (parseMethodDescriptor yX3_init.desc).map (fun d => d.parameters.length) = some 0 := by decide +kernel
def U_X3_init (g : GG) (o : Nat) (n : Nat) (f : Nat → va_E) (K : Nat → (Nat → va_E) → Prop) : Prop := (∀ f1 : Nat → va_E, f1 = va_up f n (aR (gcS g) 10 (fun _ => none)) → (o < (n + 1) ∧ ∃ fs3 : List Value, f1 o = .inr (3, fs3) ∧ 0 < fs3.length ∧ ∀ f2 : Nat → va_E, f2 = va_up f1 o (.inr (3, fs3.set 0 (.ref (gbs g + n)))) → (o < (n + 1) ∧ ∃ fs5 : List Value, f2 o = .inr (3, fs5) ∧ 1 < fs5.length ∧ ∀ f4 : Nat → va_E, f4 = va_up f2 o (.inr (3, fs5.set 1 (.int (0)))) → (o < (n + 1) ∧ ∃ fs7 : List Value, f4 o = .inr (3, fs7) ∧ 2 < fs7.length ∧ ∀ f6 : Nat → va_E, f6 = va_up f4 o (.inr (3, fs7.set 2 (.int (0)))) → (K (n + 1) f6)))))
set_option maxHeartbeats 4000000 in
set_option maxRecDepth 100000 in
theorem u_X3_init {l : Launch} {g : GG} {o : Nat} {n : Nat} {f : Nat → va_E} {K : Nat → (Nat → va_E) → Prop} (hV : U_X3_init g o  n f K) : CtU l yX3_init cX3_init 1 1 12 1 10 [.ref (gbs g + o)] g n f K := by
  refine cu_intro RX3 (by decide) rfl (Nat.le_of_ble_eq_true rfl) ?_
  intro p e s mi below meth c C
  unfold U_X3_init at hV
  refine ku_aload_n C dX3_init_0 rfl rfl ?_
  refine ku_obj C wd_46 wd_10 wd_11 (Nat.le_of_ble_eq_true rfl) (Nat.le_of_ble_eq_true rfl) dX3_init_1 ?_
  refine ku_aload_n C dX3_init_4 rfl rfl ?_
  refine ku_bipush (v := 10) C dX3_init_5 (by decide) ?_
  refine ku_anew (N' := 10) C 2 wd_47 C.2.2.2.2.2.1.2.1.1 rfl (by decide) (by decide) (by decide) (Nat.le_of_ble_eq_true rfl) (Nat.le_of_ble_eq_true rfl) dX3_init_7 (fun f1 hf1 => ?_)
  have hV := hV f1 hf1
  obtain ⟨hof2, fs3, hef2, hlf2, hV⟩ := hV
  refine ku_putF (ci := 3) (ty := (.array (.object "FactShares$Share"))) C 0 tyX3 hof2 hef2 rfl inlX3 tyX3_ok nmX3 (by decide) wd_48 rfl rfl (by decide +kernel) rfl rfl hlf2 dX3_init_10 (fun f2 hf2 => ?_)
  have hV := hV f2 hf2
  refine ku_aload_n C dX3_init_13 rfl rfl ?_
  refine ku_iconst (v := 0) C dX3_init_14 (by decide) ?_
  obtain ⟨hof4, fs5, hef4, hlf4, hV⟩ := hV
  refine ku_put (ci := 3) (ty := .int) C 1 tyX3 hof4 hef4 rfl inlX3 tyX3_ok nmX3 (by decide) wd_49 rfl (by decide +kernel) rfl rfl hlf4 dX3_init_15 (fun f4 hf4 => ?_)
  have hV := hV f4 hf4
  refine ku_aload_n C dX3_init_18 rfl rfl ?_
  refine ku_iconst (v := 0) C dX3_init_19 (by decide) ?_
  obtain ⟨hof6, fs7, hef6, hlf6, hV⟩ := hV
  refine ku_put (ci := 3) (ty := .int) C 2 tyX3 hof6 hef6 rfl inlX3 tyX3_ok nmX3 (by decide) wd_50 rfl (by decide +kernel) rfl rfl hlf6 dX3_init_20 (fun f6 hf6 => ?_)
  have hV := hV f6 hf6
  exact ku_vret C (Nat.le_of_ble_eq_true rfl) (Nat.le_of_ble_eq_true rfl) hV dX3_init_23
theorem uhd_X5_init : yX5_init.cls ≠ "java/lang/invoke/MethodHandle" ∧ yX5_init.cls ≠ "java/lang/invoke/VarHandle" ∧ (parseMethodDescriptor yX5_init.desc).map (fun d => d.parameters.length) = some 0 := by decide +kernel
def U_X5_init (g : GG) (o : Nat) (n : Nat) (f : Nat → va_E) (K : Nat → (Nat → va_E) → Prop) : Prop := (o < n ∧ ∃ fs2 : List Value, f o = .inr (5, fs2) ∧ 0 < fs2.length ∧ ∀ f1 : Nat → va_E, f1 = va_up f o (.inr (5, fs2.set 0 (.int (0)))) → (o < n ∧ ∃ fs4 : List Value, f1 o = .inr (5, fs4) ∧ 1 < fs4.length ∧ ∀ f3 : Nat → va_E, f3 = va_up f1 o (.inr (5, fs4.set 1 (.int ((-2000000))))) → (o < n ∧ ∃ fs6 : List Value, f3 o = .inr (5, fs6) ∧ 2 < fs6.length ∧ ∀ f5 : Nat → va_E, f5 = va_up f3 o (.inr (5, fs6.set 2 (.int (0)))) → (o < n ∧ ∃ fs8 : List Value, f5 o = .inr (5, fs8) ∧ 3 < fs8.length ∧ ∀ f7 : Nat → va_E, f7 = va_up f5 o (.inr (5, fs8.set 3 (.int (0)))) → (o < n ∧ ∃ fs10 : List Value, f7 o = .inr (5, fs10) ∧ 4 < fs10.length ∧ ∀ f9 : Nat → va_E, f9 = va_up f7 o (.inr (5, fs10.set 4 (.int (0)))) → (o < n ∧ ∃ fs12 : List Value, f9 o = .inr (5, fs12) ∧ 5 < fs12.length ∧ ∀ f11 : Nat → va_E, f11 = va_up f9 o (.inr (5, fs12.set 5 (.int (0)))) → (K n f11)))))))
set_option maxHeartbeats 4000000 in
set_option maxRecDepth 100000 in
theorem u_X5_init {l : Launch} {g : GG} {o : Nat} {n : Nat} {f : Nat → va_E} {K : Nat → (Nat → va_E) → Prop} (hV : U_X5_init g o  n f K) : CtU l yX5_init cX5_init 1 1 12 0 0 [.ref (gbs g + o)] g n f K := by
  refine cu_intro RX5 (by decide) rfl (Nat.le_of_ble_eq_true rfl) ?_
  intro p e s mi below meth c C
  unfold U_X5_init at hV
  refine ku_aload_n C dX5_init_0 rfl rfl ?_
  refine ku_obj C wd_94 wd_10 wd_11 (Nat.le_of_ble_eq_true rfl) (Nat.le_of_ble_eq_true rfl) dX5_init_1 ?_
  refine ku_aload_n C dX5_init_4 rfl rfl ?_
  refine ku_iconst (v := 0) C dX5_init_5 (by decide) ?_
  obtain ⟨hof1, fs2, hef1, hlf1, hV⟩ := hV
  refine ku_put (ci := 5) (ty := .int) C 0 tyX5 hof1 hef1 rfl inlX5 tyX5_ok nmX5 (by decide) wd_95 rfl (by decide +kernel) rfl rfl hlf1 dX5_init_6 (fun f1 hf1 => ?_)
  have hV := hV f1 hf1
  refine ku_aload_n C dX5_init_9 rfl rfl ?_
  refine ku_ldc (v := (-2000000)) C wd_96 dX5_init_10 ?_
  obtain ⟨hof3, fs4, hef3, hlf3, hV⟩ := hV
  refine ku_put (ci := 5) (ty := .int) C 1 tyX5 hof3 hef3 rfl inlX5 tyX5_ok nmX5 (by decide) wd_97 rfl (by decide +kernel) rfl rfl hlf3 dX5_init_12 (fun f3 hf3 => ?_)
  have hV := hV f3 hf3
  refine ku_aload_n C dX5_init_15 rfl rfl ?_
  refine ku_iconst (v := 0) C dX5_init_16 (by decide) ?_
  obtain ⟨hof5, fs6, hef5, hlf5, hV⟩ := hV
  refine ku_put (ci := 5) (ty := .int) C 2 tyX5 hof5 hef5 rfl inlX5 tyX5_ok nmX5 (by decide) wd_98 rfl (by decide +kernel) rfl rfl hlf5 dX5_init_17 (fun f5 hf5 => ?_)
  have hV := hV f5 hf5
  refine ku_aload_n C dX5_init_20 rfl rfl ?_
  refine ku_iconst (v := 0) C dX5_init_21 (by decide) ?_
  obtain ⟨hof7, fs8, hef7, hlf7, hV⟩ := hV
  refine ku_put (ci := 5) (ty := .int) C 3 tyX5 hof7 hef7 rfl inlX5 tyX5_ok nmX5 (by decide) wd_99 rfl (by decide +kernel) rfl rfl hlf7 dX5_init_22 (fun f7 hf7 => ?_)
  have hV := hV f7 hf7
  refine ku_aload_n C dX5_init_25 rfl rfl ?_
  refine ku_iconst (v := 0) C dX5_init_26 (by decide) ?_
  obtain ⟨hof9, fs10, hef9, hlf9, hV⟩ := hV
  refine ku_put (ci := 5) (ty := .int) C 4 tyX5 hof9 hef9 rfl inlX5 tyX5_ok nmX5 (by decide) wd_100 rfl (by decide +kernel) rfl rfl hlf9 dX5_init_27 (fun f9 hf9 => ?_)
  have hV := hV f9 hf9
  refine ku_aload_n C dX5_init_30 rfl rfl ?_
  refine ku_iconst (v := 0) C dX5_init_31 (by decide) ?_
  obtain ⟨hof11, fs12, hef11, hlf11, hV⟩ := hV
  refine ku_put (ci := 5) (ty := .int) C 5 tyX5 hof11 hef11 rfl inlX5 tyX5_ok nmX5 (by decide) wd_101 rfl (by decide +kernel) rfl rfl hlf11 dX5_init_32 (fun f11 hf11 => ?_)
  have hV := hV f11 hf11
  exact ku_vret C (Nat.le_of_ble_eq_true rfl) (Nat.le_of_ble_eq_true rfl) hV dX5_init_35
theorem uhd_X4_init : yX4_init.cls ≠ "java/lang/invoke/MethodHandle" ∧ yX4_init.cls ≠ "java/lang/invoke/VarHandle" ∧ (parseMethodDescriptor yX4_init.desc).map (fun d => d.parameters.length) = some 0 := by decide +kernel
def U_X4_init (g : GG) (o : Nat) (n : Nat) (f : Nat → va_E) (K : Nat → (Nat → va_E) → Prop) : Prop := (∀ f1 : Nat → va_E, f1 = va_up f n (aI (gcI g) 8 (fun _ => 0)) → (o < (n + 1) ∧ ∃ fs3 : List Value, f1 o = .inr (4, fs3) ∧ 0 < fs3.length ∧ ∀ f2 : Nat → va_E, f2 = va_up f1 o (.inr (4, fs3.set 0 (.ref (gbs g + n)))) → (∀ f4 : Nat → va_E, f4 = va_up f2 (n + 1) (aI (gcI g) 8 (fun _ => 0)) → (o < ((n + 1) + 1) ∧ ∃ fs6 : List Value, f4 o = .inr (4, fs6) ∧ 1 < fs6.length ∧ ∀ f5 : Nat → va_E, f5 = va_up f4 o (.inr (4, fs6.set 1 (.ref (gbs g + (n + 1))))) → (∀ f7 : Nat → va_E, f7 = va_up f5 ((n + 1) + 1) (aI (gcI g) 8 (fun _ => 0)) → (o < (((n + 1) + 1) + 1) ∧ ∃ fs9 : List Value, f7 o = .inr (4, fs9) ∧ 2 < fs9.length ∧ ∀ f8 : Nat → va_E, f8 = va_up f7 o (.inr (4, fs9.set 2 (.ref (gbs g + ((n + 1) + 1))))) → (o < (((n + 1) + 1) + 1) ∧ ∃ fs11 : List Value, f8 o = .inr (4, fs11) ∧ 3 < fs11.length ∧ ∀ f10 : Nat → va_E, f10 = va_up f8 o (.inr (4, fs11.set 3 (.int (0)))) → (o < (((n + 1) + 1) + 1) ∧ ∃ fs13 : List Value, f10 o = .inr (4, fs13) ∧ 4 < fs13.length ∧ ∀ f12 : Nat → va_E, f12 = va_up f10 o (.inr (4, fs13.set 4 (.int (0)))) → (o < (((n + 1) + 1) + 1) ∧ ∃ fs15 : List Value, f12 o = .inr (4, fs15) ∧ 5 < fs15.length ∧ ∀ f14 : Nat → va_E, f14 = va_up f12 o (.inr (4, fs15.set 5 (.int ((-2000000))))) → (o < (((n + 1) + 1) + 1) ∧ ∃ fs17 : List Value, f14 o = .inr (4, fs17) ∧ 6 < fs17.length ∧ ∀ f16 : Nat → va_E, f16 = va_up f14 o (.inr (4, fs17.set 6 (.int (0)))) → (o < (((n + 1) + 1) + 1) ∧ ∃ fs19 : List Value, f16 o = .inr (4, fs19) ∧ 7 < fs19.length ∧ ∀ f18 : Nat → va_E, f18 = va_up f16 o (.inr (4, fs19.set 7 (.int (0)))) → (o < (((n + 1) + 1) + 1) ∧ ∃ fs21 : List Value, f18 o = .inr (4, fs21) ∧ 8 < fs21.length ∧ ∀ f20 : Nat → va_E, f20 = va_up f18 o (.inr (4, fs21.set 8 (.int (0)))) → (K (((n + 1) + 1) + 1) f20)))))))))))))
set_option maxHeartbeats 4000000 in
set_option maxRecDepth 100000 in
theorem u_X4_init {l : Launch} {g : GG} {o : Nat} {n : Nat} {f : Nat → va_E} {K : Nat → (Nat → va_E) → Prop} (hV : U_X4_init g o  n f K) : CtU l yX4_init cX4_init 1 1 12 3 24 [.ref (gbs g + o)] g n f K := by
  refine cu_intro RX4 (by decide) rfl (Nat.le_of_ble_eq_true rfl) ?_
  intro p e s mi below meth c C
  unfold U_X4_init at hV
  refine ku_aload_n C dX4_init_0 rfl rfl ?_
  refine ku_obj C wd_104 wd_10 wd_11 (Nat.le_of_ble_eq_true rfl) (Nat.le_of_ble_eq_true rfl) dX4_init_1 ?_
  refine ku_aload_n C dX4_init_4 rfl rfl ?_
  refine ku_bipush (v := 8) C dX4_init_5 (by decide) ?_
  refine ku_newa (a0 := (8, .inl (fun _ => 0))) (ty := .int) C 0 wd_41 rfl (fun _ h => by cases h) rfl (fun _ => rfl) (by decide) (by decide) (by decide) (Nat.le_of_ble_eq_true rfl) (Nat.le_of_ble_eq_true rfl) dX4_init_7 (fun f1 hf1 => ?_)
  have hV := hV f1 hf1
  obtain ⟨hof2, fs3, hef2, hlf2, hV⟩ := hV
  refine ku_putF (ci := 4) (ty := (.array .int)) C 0 tyX4 hof2 hef2 rfl inlX4 tyX4_ok nmX4 (by decide) wd_105 rfl rfl (by decide +kernel) rfl rfl hlf2 dX4_init_9 (fun f2 hf2 => ?_)
  have hV := hV f2 hf2
  refine ku_aload_n C dX4_init_12 rfl rfl ?_
  refine ku_bipush (v := 8) C dX4_init_13 (by decide) ?_
  refine ku_newa (a0 := (8, .inl (fun _ => 0))) (ty := .int) C 0 wd_41 rfl (fun _ h => by cases h) rfl (fun _ => rfl) (by decide) (by decide) (by decide) (Nat.le_of_ble_eq_true rfl) (Nat.le_of_ble_eq_true rfl) dX4_init_15 (fun f4 hf4 => ?_)
  have hV := hV f4 hf4
  obtain ⟨hof5, fs6, hef5, hlf5, hV⟩ := hV
  refine ku_putF (ci := 4) (ty := (.array .int)) C 1 tyX4 hof5 hef5 rfl inlX4 tyX4_ok nmX4 (by decide) wd_106 rfl rfl (by decide +kernel) rfl rfl hlf5 dX4_init_17 (fun f5 hf5 => ?_)
  have hV := hV f5 hf5
  refine ku_aload_n C dX4_init_20 rfl rfl ?_
  refine ku_bipush (v := 8) C dX4_init_21 (by decide) ?_
  refine ku_newa (a0 := (8, .inl (fun _ => 0))) (ty := .int) C 0 wd_41 rfl (fun _ h => by cases h) rfl (fun _ => rfl) (by decide) (by decide) (by decide) (Nat.le_of_ble_eq_true rfl) (Nat.le_of_ble_eq_true rfl) dX4_init_23 (fun f7 hf7 => ?_)
  have hV := hV f7 hf7
  obtain ⟨hof8, fs9, hef8, hlf8, hV⟩ := hV
  refine ku_putF (ci := 4) (ty := (.array .int)) C 2 tyX4 hof8 hef8 rfl inlX4 tyX4_ok nmX4 (by decide) wd_107 rfl rfl (by decide +kernel) rfl rfl hlf8 dX4_init_25 (fun f8 hf8 => ?_)
  have hV := hV f8 hf8
  refine ku_aload_n C dX4_init_28 rfl rfl ?_
  refine ku_iconst (v := 0) C dX4_init_29 (by decide) ?_
  obtain ⟨hof10, fs11, hef10, hlf10, hV⟩ := hV
  refine ku_put (ci := 4) (ty := .int) C 3 tyX4 hof10 hef10 rfl inlX4 tyX4_ok nmX4 (by decide) wd_108 rfl (by decide +kernel) rfl rfl hlf10 dX4_init_30 (fun f10 hf10 => ?_)
  have hV := hV f10 hf10
  refine ku_aload_n C dX4_init_33 rfl rfl ?_
  refine ku_iconst (v := 0) C dX4_init_34 (by decide) ?_
  obtain ⟨hof12, fs13, hef12, hlf12, hV⟩ := hV
  refine ku_put (ci := 4) (ty := .int) C 4 tyX4 hof12 hef12 rfl inlX4 tyX4_ok nmX4 (by decide) wd_109 rfl (by decide +kernel) rfl rfl hlf12 dX4_init_35 (fun f12 hf12 => ?_)
  have hV := hV f12 hf12
  refine ku_aload_n C dX4_init_38 rfl rfl ?_
  refine ku_ldc (v := (-2000000)) C wd_110 dX4_init_39 ?_
  obtain ⟨hof14, fs15, hef14, hlf14, hV⟩ := hV
  refine ku_put (ci := 4) (ty := .int) C 5 tyX4 hof14 hef14 rfl inlX4 tyX4_ok nmX4 (by decide) wd_111 rfl (by decide +kernel) rfl rfl hlf14 dX4_init_41 (fun f14 hf14 => ?_)
  have hV := hV f14 hf14
  refine ku_aload_n C dX4_init_44 rfl rfl ?_
  refine ku_iconst (v := 0) C dX4_init_45 (by decide) ?_
  obtain ⟨hof16, fs17, hef16, hlf16, hV⟩ := hV
  refine ku_put (ci := 4) (ty := .int) C 6 tyX4 hof16 hef16 rfl inlX4 tyX4_ok nmX4 (by decide) wd_112 rfl (by decide +kernel) rfl rfl hlf16 dX4_init_46 (fun f16 hf16 => ?_)
  have hV := hV f16 hf16
  refine ku_aload_n C dX4_init_49 rfl rfl ?_
  refine ku_iconst (v := 0) C dX4_init_50 (by decide) ?_
  obtain ⟨hof18, fs19, hef18, hlf18, hV⟩ := hV
  refine ku_put (ci := 4) (ty := .int) C 7 tyX4 hof18 hef18 rfl inlX4 tyX4_ok nmX4 (by decide) wd_113 rfl (by decide +kernel) rfl rfl hlf18 dX4_init_51 (fun f18 hf18 => ?_)
  have hV := hV f18 hf18
  refine ku_aload_n C dX4_init_54 rfl rfl ?_
  refine ku_iconst (v := 0) C dX4_init_55 (by decide) ?_
  obtain ⟨hof20, fs21, hef20, hlf20, hV⟩ := hV
  refine ku_put (ci := 4) (ty := .int) C 8 tyX4 hof20 hef20 rfl inlX4 tyX4_ok nmX4 (by decide) wd_114 rfl (by decide +kernel) rfl rfl hlf20 dX4_init_56 (fun f20 hf20 => ?_)
  have hV := hV f20 hf20
  exact ku_vret C (Nat.le_of_ble_eq_true rfl) (Nat.le_of_ble_eq_true rfl) hV dX4_init_59
theorem uhd_X0_init : yX0_init.cls ≠ "java/lang/invoke/MethodHandle" ∧ yX0_init.cls ≠ "java/lang/invoke/VarHandle" ∧ (parseMethodDescriptor yX0_init.desc).map (fun d => d.parameters.length) = some 0 := by decide +kernel
def U_X0_init (g : GG) (o : Nat) (n : Nat) (f : Nat → va_E) (K : Nat → (Nat → va_E) → Prop) : Prop := (∀ f1 : Nat → va_E, f1 = va_up f n (aI (gcI g) 3 (fun _ => 0)) → (o < (n + 1) ∧ ∃ fs3 : List Value, f1 o = .inr (0, fs3) ∧ 0 < fs3.length ∧ ∀ f2 : Nat → va_E, f2 = va_up f1 o (.inr (0, fs3.set 0 (.ref (gbs g + n)))) → (∀ f4 : Nat → va_E, f4 = va_up f2 (n + 1) (aI (gcI g) 3 (fun _ => 0)) → (o < ((n + 1) + 1) ∧ ∃ fs6 : List Value, f4 o = .inr (0, fs6) ∧ 1 < fs6.length ∧ ∀ f5 : Nat → va_E, f5 = va_up f4 o (.inr (0, fs6.set 1 (.ref (gbs g + (n + 1))))) → (o < ((n + 1) + 1) ∧ ∃ fs8 : List Value, f5 o = .inr (0, fs8) ∧ 2 < fs8.length ∧ ∀ f7 : Nat → va_E, f7 = va_up f5 o (.inr (0, fs8.set 2 (.int (0)))) → (∀ f9 : Nat → va_E, f9 = va_up f7 ((n + 1) + 1) (aI (gcZ g) 3 (fun _ => 0)) → (o < (((n + 1) + 1) + 1) ∧ ∃ fs11 : List Value, f9 o = .inr (0, fs11) ∧ 3 < fs11.length ∧ ∀ f10 : Nat → va_E, f10 = va_up f9 o (.inr (0, fs11.set 3 (.ref (gbs g + ((n + 1) + 1))))) → (∀ f12 : Nat → va_E, f12 = va_up f10 (((n + 1) + 1) + 1) (aI (gcI g) 3 (fun _ => 0)) → (o < ((((n + 1) + 1) + 1) + 1) ∧ ∃ fs14 : List Value, f12 o = .inr (0, fs14) ∧ 4 < fs14.length ∧ ∀ f13 : Nat → va_E, f13 = va_up f12 o (.inr (0, fs14.set 4 (.ref (gbs g + (((n + 1) + 1) + 1))))) → (∀ f15 : Nat → va_E, f15 = va_up f13 ((((n + 1) + 1) + 1) + 1) (aI (gcI g) 3 (fun _ => 0)) → (o < (((((n + 1) + 1) + 1) + 1) + 1) ∧ ∃ fs17 : List Value, f15 o = .inr (0, fs17) ∧ 5 < fs17.length ∧ ∀ f16 : Nat → va_E, f16 = va_up f15 o (.inr (0, fs17.set 5 (.ref (gbs g + ((((n + 1) + 1) + 1) + 1))))) → (K (((((n + 1) + 1) + 1) + 1) + 1) f16))))))))))))
set_option maxHeartbeats 4000000 in
set_option maxRecDepth 100000 in
theorem u_X0_init {l : Launch} {g : GG} {o : Nat} {n : Nat} {f : Nat → va_E} {K : Nat → (Nat → va_E) → Prop} (hV : U_X0_init g o  n f K) : CtU l yX0_init cX0_init 1 1 12 5 15 [.ref (gbs g + o)] g n f K := by
  refine cu_intro RX0 (by decide) rfl (Nat.le_of_ble_eq_true rfl) ?_
  intro p e s mi below meth c C
  unfold U_X0_init at hV
  refine ku_aload_n C dX0_init_0 rfl rfl ?_
  refine ku_obj C wd_79 wd_10 wd_11 (Nat.le_of_ble_eq_true rfl) (Nat.le_of_ble_eq_true rfl) dX0_init_1 ?_
  refine ku_aload_n C dX0_init_4 rfl rfl ?_
  refine ku_iconst (v := 3) C dX0_init_5 (by decide) ?_
  refine ku_newa (a0 := (3, .inl (fun _ => 0))) (ty := .int) C 0 wd_41 rfl (fun _ h => by cases h) rfl (fun _ => rfl) (by decide) (by decide) (by decide) (Nat.le_of_ble_eq_true rfl) (Nat.le_of_ble_eq_true rfl) dX0_init_6 (fun f1 hf1 => ?_)
  have hV := hV f1 hf1
  obtain ⟨hof2, fs3, hef2, hlf2, hV⟩ := hV
  refine ku_putF (ci := 0) (ty := (.array .int)) C 0 tyX0 hof2 hef2 rfl inlX0 tyX0_ok nmX0 (by decide) wd_80 rfl rfl (by decide +kernel) rfl rfl hlf2 dX0_init_8 (fun f2 hf2 => ?_)
  have hV := hV f2 hf2
  refine ku_aload_n C dX0_init_11 rfl rfl ?_
  refine ku_iconst (v := 3) C dX0_init_12 (by decide) ?_
  refine ku_newa (a0 := (3, .inl (fun _ => 0))) (ty := .int) C 0 wd_41 rfl (fun _ h => by cases h) rfl (fun _ => rfl) (by decide) (by decide) (by decide) (Nat.le_of_ble_eq_true rfl) (Nat.le_of_ble_eq_true rfl) dX0_init_13 (fun f4 hf4 => ?_)
  have hV := hV f4 hf4
  obtain ⟨hof5, fs6, hef5, hlf5, hV⟩ := hV
  refine ku_putF (ci := 0) (ty := (.array .int)) C 1 tyX0 hof5 hef5 rfl inlX0 tyX0_ok nmX0 (by decide) wd_81 rfl rfl (by decide +kernel) rfl rfl hlf5 dX0_init_15 (fun f5 hf5 => ?_)
  have hV := hV f5 hf5
  refine ku_aload_n C dX0_init_18 rfl rfl ?_
  refine ku_iconst (v := 0) C dX0_init_19 (by decide) ?_
  obtain ⟨hof7, fs8, hef7, hlf7, hV⟩ := hV
  refine ku_put (ci := 0) (ty := .int) C 2 tyX0 hof7 hef7 rfl inlX0 tyX0_ok nmX0 (by decide) wd_82 rfl (by decide +kernel) rfl rfl hlf7 dX0_init_20 (fun f7 hf7 => ?_)
  have hV := hV f7 hf7
  refine ku_aload_n C dX0_init_23 rfl rfl ?_
  refine ku_iconst (v := 3) C dX0_init_24 (by decide) ?_
  refine ku_newa (a0 := (3, .inl (fun _ => 0))) (ty := .boolean) C 1 wd_39 rfl (fun _ h => by cases h) rfl (fun _ => rfl) (by decide) (by decide) (by decide) (Nat.le_of_ble_eq_true rfl) (Nat.le_of_ble_eq_true rfl) dX0_init_25 (fun f9 hf9 => ?_)
  have hV := hV f9 hf9
  obtain ⟨hof10, fs11, hef10, hlf10, hV⟩ := hV
  refine ku_putF (ci := 0) (ty := (.array .boolean)) C 3 tyX0 hof10 hef10 rfl inlX0 tyX0_ok nmX0 (by decide) wd_83 rfl rfl (by decide +kernel) rfl rfl hlf10 dX0_init_27 (fun f10 hf10 => ?_)
  have hV := hV f10 hf10
  refine ku_aload_n C dX0_init_30 rfl rfl ?_
  refine ku_iconst (v := 3) C dX0_init_31 (by decide) ?_
  refine ku_newa (a0 := (3, .inl (fun _ => 0))) (ty := .int) C 0 wd_41 rfl (fun _ h => by cases h) rfl (fun _ => rfl) (by decide) (by decide) (by decide) (Nat.le_of_ble_eq_true rfl) (Nat.le_of_ble_eq_true rfl) dX0_init_32 (fun f12 hf12 => ?_)
  have hV := hV f12 hf12
  obtain ⟨hof13, fs14, hef13, hlf13, hV⟩ := hV
  refine ku_putF (ci := 0) (ty := (.array .int)) C 4 tyX0 hof13 hef13 rfl inlX0 tyX0_ok nmX0 (by decide) wd_84 rfl rfl (by decide +kernel) rfl rfl hlf13 dX0_init_34 (fun f13 hf13 => ?_)
  have hV := hV f13 hf13
  refine ku_aload_n C dX0_init_37 rfl rfl ?_
  refine ku_iconst (v := 3) C dX0_init_38 (by decide) ?_
  refine ku_newa (a0 := (3, .inl (fun _ => 0))) (ty := .int) C 0 wd_41 rfl (fun _ h => by cases h) rfl (fun _ => rfl) (by decide) (by decide) (by decide) (Nat.le_of_ble_eq_true rfl) (Nat.le_of_ble_eq_true rfl) dX0_init_39 (fun f15 hf15 => ?_)
  have hV := hV f15 hf15
  obtain ⟨hof16, fs17, hef16, hlf16, hV⟩ := hV
  refine ku_putF (ci := 0) (ty := (.array .int)) C 5 tyX0 hof16 hef16 rfl inlX0 tyX0_ok nmX0 (by decide) wd_85 rfl rfl (by decide +kernel) rfl rfl hlf16 dX0_init_41 (fun f16 hf16 => ?_)
  have hV := hV f16 hf16
  exact ku_vret C (Nat.le_of_ble_eq_true rfl) (Nat.le_of_ble_eq_true rfl) hV dX0_init_44
theorem uhd_X6_init : yX6_init.cls ≠ "java/lang/invoke/MethodHandle" ∧ yX6_init.cls ≠ "java/lang/invoke/VarHandle" ∧ (parseMethodDescriptor yX6_init.desc).map (fun d => d.parameters.length) = some 1 := by decide +kernel
def U_X6_init (g : GG) (o : Nat) (x1 : Int32) (n : Nat) (f : Nat → va_E) (K : Nat → (Nat → va_E) → Prop) : Prop := (∀ f1 : Nat → va_E, f1 = va_up f n (.inr (0, [.null, .null, .int 0, .null, .null, .null])) → (U_X0_init g (n)  ((n + 1)) f1 (fun n2 f3 => (o < n2 ∧ ∃ fs5 : List Value, f3 o = .inr (6, fs5) ∧ 1 < fs5.length ∧ ∀ f4 : Nat → va_E, f4 = va_up f3 o (.inr (6, fs5.set 1 (.ref (gbs g + n)))) → (o < n2 ∧ ∃ fs7 : List Value, f4 o = .inr (6, fs7) ∧ 2 < fs7.length ∧ ∀ f6 : Nat → va_E, f6 = va_up f4 o (.inr (6, fs7.set 2 (.int (0)))) → (o < n2 ∧ ∃ fs9 : List Value, f6 o = .inr (6, fs9) ∧ 3 < fs9.length ∧ ∀ f8 : Nat → va_E, f8 = va_up f6 o (.inr (6, fs9.set 3 (.int (0)))) → (o < n2 ∧ ∃ fs11 : List Value, f8 o = .inr (6, fs11) ∧ 4 < fs11.length ∧ ∀ f10 : Nat → va_E, f10 = va_up f8 o (.inr (6, fs11.set 4 (.null))) → (o < n2 ∧ ∃ fs13 : List Value, f10 o = .inr (6, fs13) ∧ 5 < fs13.length ∧ ∀ f12 : Nat → va_E, f12 = va_up f10 o (.inr (6, fs13.set 5 (.int (0)))) → (o < n2 ∧ ∃ fs15 : List Value, f12 o = .inr (6, fs15) ∧ 0 < fs15.length ∧ ∀ f14 : Nat → va_E, f14 = va_up f12 o (.inr (6, fs15.set 0 (.int (x1)))) → (K n2 f14))))))))))
set_option maxHeartbeats 4000000 in
set_option maxRecDepth 100000 in
theorem u_X6_init {l : Launch} {g : GG} {o : Nat} {x1 : Int32} {n : Nat} {f : Nat → va_E} {K : Nat → (Nat → va_E) → Prop} (hV : U_X6_init g o x1 n f K) : CtU l yX6_init cX6_init 2 2 32 6 21 [.ref (gbs g + o), .int x1] g n f K := by
  refine cu_intro RX6 (by decide) rfl (Nat.le_of_ble_eq_true rfl) ?_
  intro p e s mi below meth c C
  unfold U_X6_init at hV
  refine ku_aload_n C dX6_init_0 rfl rfl ?_
  refine ku_obj C wd_67 wd_10 wd_11 (Nat.le_of_ble_eq_true rfl) (Nat.le_of_ble_eq_true rfl) dX6_init_1 ?_
  refine ku_aload_n C dX6_init_4 rfl rfl ?_
  refine ku_new (ci := 0) (fs := [.null, .null, .int 0, .null, .null, .null]) C tyX0 inlX0 tyX0_ok wd_68 wd_69 wd_70 rfl dfX0 (Nat.le_of_ble_eq_true rfl) (Nat.le_of_ble_eq_true rfl) dX6_init_5 (fun f1 hf1 => ?_)
  have hV := hV f1 hf1
  refine ku_dup C dX6_init_8 rfl ?_
  refine ku_callN (nn := 0) C (u_X0_init hV) C.2.2.2.2.2.1.2.2.2.2.2.2 wd_77 wd_70 wd_78 rfl uhd_X0_init rfl ⟨Nat.le_of_ble_eq_true rfl, Nat.le_of_ble_eq_true rfl⟩ ⟨(Nat.le_of_ble_eq_true rfl), (Nat.le_of_ble_eq_true rfl)⟩ rfl (Nat.le_of_ble_eq_true rfl) dX6_init_9 (fun n2 f3 hV => ?_)
  obtain ⟨hof4, fs5, hef4, hlf4, hV⟩ := hV
  refine ku_putF (ci := 6) (ty := (.object "FactShares$Bench")) C 1 tyX6 hof4 hef4 rfl inlX6 tyX6_ok nmX6 (by decide) wd_71 rfl rfl (by decide +kernel) rfl rfl hlf4 dX6_init_12 (fun f4 hf4 => ?_)
  have hV := hV f4 hf4
  refine ku_aload_n C dX6_init_15 rfl rfl ?_
  refine ku_iconst (v := 0) C dX6_init_16 (by decide) ?_
  obtain ⟨hof6, fs7, hef6, hlf6, hV⟩ := hV
  refine ku_put (ci := 6) (ty := .boolean) C 2 tyX6 hof6 hef6 rfl inlX6 tyX6_ok nmX6 (by decide) wd_72 rfl (by decide +kernel) rfl rfl hlf6 dX6_init_17 (fun f6 hf6 => ?_)
  have hV := hV f6 hf6
  refine ku_aload_n C dX6_init_20 rfl rfl ?_
  refine ku_iconst (v := 0) C dX6_init_21 (by decide) ?_
  obtain ⟨hof8, fs9, hef8, hlf8, hV⟩ := hV
  refine ku_put (ci := 6) (ty := .int) C 3 tyX6 hof8 hef8 rfl inlX6 tyX6_ok nmX6 (by decide) wd_73 rfl (by decide +kernel) rfl rfl hlf8 dX6_init_22 (fun f8 hf8 => ?_)
  have hV := hV f8 hf8
  refine ku_aload_n C dX6_init_25 rfl rfl ?_
  refine ku_null C dX6_init_26 ?_
  obtain ⟨hof10, fs11, hef10, hlf10, hV⟩ := hV
  refine ku_put (ci := 6) (ty := (.object "FactShares$Share")) C 4 tyX6 hof10 hef10 rfl inlX6 tyX6_ok nmX6 (by decide) wd_74 rfl (by decide +kernel) rfl rfl hlf10 dX6_init_27 (fun f10 hf10 => ?_)
  have hV := hV f10 hf10
  refine ku_aload_n C dX6_init_30 rfl rfl ?_
  refine ku_iconst (v := 0) C dX6_init_31 (by decide) ?_
  obtain ⟨hof12, fs13, hef12, hlf12, hV⟩ := hV
  refine ku_put (ci := 6) (ty := .int) C 5 tyX6 hof12 hef12 rfl inlX6 tyX6_ok nmX6 (by decide) wd_75 rfl (by decide +kernel) rfl rfl hlf12 dX6_init_32 (fun f12 hf12 => ?_)
  have hV := hV f12 hf12
  refine ku_aload_n C dX6_init_35 rfl rfl ?_
  refine ku_iload_n C dX6_init_36 rfl rfl ?_
  obtain ⟨hof14, fs15, hef14, hlf14, hV⟩ := hV
  refine ku_putF (ci := 6) (ty := .int) C 0 tyX6 hof14 hef14 rfl inlX6 tyX6_ok nmX6 (by decide) wd_76 rfl rfl (by decide +kernel) rfl rfl hlf14 dX6_init_37 (fun f14 hf14 => ?_)
  have hV := hV f14 hf14
  exact ku_vret C (Nat.le_of_ble_eq_true rfl) (Nat.le_of_ble_eq_true rfl) hV dX6_init_40
theorem uhd_X1_hire : yX1_hire.cls ≠ "java/lang/invoke/MethodHandle" ∧ yX1_hire.cls ≠ "java/lang/invoke/VarHandle" ∧ (parseMethodDescriptor yX1_hire.desc).map (fun d => d.parameters.length) = some 1 := by decide +kernel
def U_X1_hire_7 (k : Nat) (g : GG) (o : Nat) (y1 : Int32) (y2 : Int32) (n : Nat) (f : Nat → va_E) (cl sl : Nat) (K : Nat → (Nat → va_E) → Prop) : Prop := match k with
  | 0 => False
  | k + 1 => ((4 ≤ y2 → ((cl ≤ 0) ∧ ((sl ≤ 0) ∧ (K n f)))) ∧ (¬ 4 ≤ y2 → (o < n ∧ ∃ (fs6 : List Value) (o5 : Nat), f o = .inr (1, fs6) ∧ fs6[0]? = some (.ref (gbs g + o5)) ∧ (o5 < n ∧ ∃ (N7 : Nat) (h8 : Nat → Option Nat) (o9 : Nat), f o5 = aR (gcW g) N7 h8 ∧ vp_in y2 N7 ∧ h8 (y2 : Int32).toNatClampNeg = some (gbs g + o9) ∧ ((y1 ≤ y2 → (o9 < n ∧ ∃ fs11 : List Value, f o9 = .inr (6, fs11) ∧ 2 < fs11.length ∧ ∀ f10 : Nat → va_E, f10 = va_up f o9 (.inr (6, fs11.set 2 (.int (0)))) → (o < n ∧ ∃ (fs13 : List Value) (o12 : Nat), f10 o = .inr (1, fs13) ∧ fs13[0]? = some (.ref (gbs g + o12)) ∧ (o12 < n ∧ ∃ (N14 : Nat) (h15 : Nat → Option Nat) (o16 : Nat), f10 o12 = aR (gcW g) N14 h15 ∧ vp_in y2 N14 ∧ h15 (y2 : Int32).toNatClampNeg = some (gbs g + o16) ∧ (o16 < n ∧ ∃ fs18 : List Value, f10 o16 = .inr (6, fs18) ∧ 3 < fs18.length ∧ ∀ f17 : Nat → va_E, f17 = va_up f10 o16 (.inr (6, fs18.set 3 (.int (0)))) → (U_X1_hire_7 k g o (y1) ((y2 + 1)) n f17 cl sl K)))))) ∧ (¬ y1 ≤ y2 → (o9 < n ∧ ∃ fs20 : List Value, f o9 = .inr (6, fs20) ∧ 2 < fs20.length ∧ ∀ f19 : Nat → va_E, f19 = va_up f o9 (.inr (6, fs20.set 2 (.int (1)))) → (o < n ∧ ∃ (fs22 : List Value) (o21 : Nat), f19 o = .inr (1, fs22) ∧ fs22[0]? = some (.ref (gbs g + o21)) ∧ (o21 < n ∧ ∃ (N23 : Nat) (h24 : Nat → Option Nat) (o25 : Nat), f19 o21 = aR (gcW g) N23 h24 ∧ vp_in y2 N23 ∧ h24 (y2 : Int32).toNatClampNeg = some (gbs g + o25) ∧ (o25 < n ∧ ∃ fs27 : List Value, f19 o25 = .inr (6, fs27) ∧ 3 < fs27.length ∧ ∀ f26 : Nat → va_E, f26 = va_up f19 o25 (.inr (6, fs27.set 3 (.int (0)))) → (U_X1_hire_7 k g o (y1) ((y2 + 1)) n f26 cl sl K)))))))))))
def U_X1_hire (g : GG) (o : Nat) (x1 : Int32) (n : Nat) (f : Nat → va_E) (K : Nat → (Nat → va_E) → Prop) : Prop := (o < n ∧ ∃ fs2 : List Value, f o = .inr (1, fs2) ∧ 1 < fs2.length ∧ ∀ f1 : Nat → va_E, f1 = va_up f o (.inr (1, fs2.set 1 (.int (x1)))) → (∃ k : Nat, U_X1_hire_7 k g o (x1) (0) n f1 0 0 K))
set_option maxHeartbeats 4000000 in
set_option maxRecDepth 100000 in
theorem u_X1_hire_7 {p : Program} {l : Launch} {e : Env} {s : State} {mi : MethodId} {args : Array Value} {below : List Frame} {meth : Method} {c : Code} {g : GG} {o : Nat} {K : Nat → (Nat → va_E) → Prop} (C : CU p s mi args meth c cX1_hire RX1 3 "hire" none g) (k : Nat) : ∀ {y1 : Int32} {y2 : Int32} {n : Nat} {f : Nat → va_E} {cl sl : Nat}, U_X1_hire_7 k g o y1 y2 n f cl sl K → UU p l e { frames := 0, cells := 0, slots := 0, locals := 0 } s mi args below meth c (MQ below (QU g K) args s 0 0 (gA g)) g 3 n f cl sl 7 [(0, .ref (gbs g + o)), (1, .int (y1)), (2, .int (y2))] [] := by
  induction k with
  | zero => intros; rename_i hV; exact absurd hV (by simp [U_X1_hire_7])
  | succ k ih =>
    intro y1 y2 n f cl sl hV
    unfold U_X1_hire_7 at hV
    refine ku_iload_n C dX1_hire_7 rfl rfl ?_
    refine ku_iconst (v := 4) C dX1_hire_8 (by decide) ?_
    refine ku_icmp_ge C 47 dX1_hire_9 rfl (fun c9 => ?_) (fun c9 => ?_)
    · have hV := hV.1 c9
      have hc3 := hV.1
      have hV := hV.2
      have hc4 := hV.1
      have hV := hV.2
      exact ku_vret C hc3 hc4 hV dX1_hire_47
    · have hV := hV.2 c9
      refine ku_aload_n C dX1_hire_12 rfl rfl ?_
      obtain ⟨hoo5, fs6, o5, heo5, hxo5, hV⟩ := hV
      refine ku_get (ci := 1) C 0 hoo5 heo5 rfl inlX1 (by decide) wd_56 hxo5 dX1_hire_13 ?_
      refine ku_iload_n C dX1_hire_16 rfl rfl ?_
      obtain ⟨hoo9, N7, h8, o9, heo9, hio9, hro9, hV⟩ := hV
      refine ku_aald C 3 hoo9 heo9 rfl hio9 dX1_hire_17 ?_
      refine ku_rf hro9 ?_
      refine ku_iload_n C dX1_hire_18 rfl rfl ?_
      refine ku_iload_n C dX1_hire_19 rfl rfl ?_
      refine ku_icmp_ge C 27 dX1_hire_20 rfl (fun c20 => ?_) (fun c20 => ?_)
      · have hV := hV.1 c20
        refine ku_iconst (v := 0) C dX1_hire_27 (by decide) ?_
        obtain ⟨hof10, fs11, hef10, hlf10, hV⟩ := hV
        refine ku_put (ci := 6) (ty := .boolean) C 2 tyX6 hof10 hef10 rfl inlX6 tyX6_ok nmX6 (by decide) wd_90 rfl (by decide +kernel) rfl rfl hlf10 dX1_hire_28 (fun f10 hf10 => ?_)
        have hV := hV f10 hf10
        refine ku_aload_n C dX1_hire_31 rfl rfl ?_
        obtain ⟨hoo12, fs13, o12, heo12, hxo12, hV⟩ := hV
        refine ku_get (ci := 1) C 0 hoo12 heo12 rfl inlX1 (by decide) wd_56 hxo12 dX1_hire_32 ?_
        refine ku_iload_n C dX1_hire_35 rfl rfl ?_
        obtain ⟨hoo16, N14, h15, o16, heo16, hio16, hro16, hV⟩ := hV
        refine ku_aald C 3 hoo16 heo16 rfl hio16 dX1_hire_36 ?_
        refine ku_rf hro16 ?_
        refine ku_iconst (v := 0) C dX1_hire_37 (by decide) ?_
        obtain ⟨hof17, fs18, hef17, hlf17, hV⟩ := hV
        refine ku_put (ci := 6) (ty := .int) C 3 tyX6 hof17 hef17 rfl inlX6 tyX6_ok nmX6 (by decide) wd_91 rfl (by decide +kernel) rfl rfl hlf17 dX1_hire_38 (fun f17 hf17 => ?_)
        have hV := hV f17 hf17
        refine ku_iinc (v := _ + 1) (lv' := [(2, .int _), (0, .ref _), (1, .int _)]) C dX1_hire_41 rfl rfl (by decide) rfl ?_
        refine ku_goto C 7 dX1_hire_44 rfl ?_
        refine ku_pick (lv' := [(0, .ref _), (1, .int _), (2, .int _)]) [1, 2, 0] rfl ?_
        exact ih hV
      · have hV := hV.2 c20
        refine ku_iconst (v := 1) C dX1_hire_23 (by decide) ?_
        refine ku_goto C 28 dX1_hire_24 rfl ?_
        obtain ⟨hof19, fs20, hef19, hlf19, hV⟩ := hV
        refine ku_put (ci := 6) (ty := .boolean) C 2 tyX6 hof19 hef19 rfl inlX6 tyX6_ok nmX6 (by decide) wd_90 rfl (by decide +kernel) rfl rfl hlf19 dX1_hire_28 (fun f19 hf19 => ?_)
        have hV := hV f19 hf19
        refine ku_aload_n C dX1_hire_31 rfl rfl ?_
        obtain ⟨hoo21, fs22, o21, heo21, hxo21, hV⟩ := hV
        refine ku_get (ci := 1) C 0 hoo21 heo21 rfl inlX1 (by decide) wd_56 hxo21 dX1_hire_32 ?_
        refine ku_iload_n C dX1_hire_35 rfl rfl ?_
        obtain ⟨hoo25, N23, h24, o25, heo25, hio25, hro25, hV⟩ := hV
        refine ku_aald C 3 hoo25 heo25 rfl hio25 dX1_hire_36 ?_
        refine ku_rf hro25 ?_
        refine ku_iconst (v := 0) C dX1_hire_37 (by decide) ?_
        obtain ⟨hof26, fs27, hef26, hlf26, hV⟩ := hV
        refine ku_put (ci := 6) (ty := .int) C 3 tyX6 hof26 hef26 rfl inlX6 tyX6_ok nmX6 (by decide) wd_91 rfl (by decide +kernel) rfl rfl hlf26 dX1_hire_38 (fun f26 hf26 => ?_)
        have hV := hV f26 hf26
        refine ku_iinc (v := _ + 1) (lv' := [(2, .int _), (0, .ref _), (1, .int _)]) C dX1_hire_41 rfl rfl (by decide) rfl ?_
        refine ku_goto C 7 dX1_hire_44 rfl ?_
        refine ku_pick (lv' := [(0, .ref _), (1, .int _), (2, .int _)]) [1, 2, 0] rfl ?_
        exact ih hV
set_option maxHeartbeats 4000000 in
set_option maxRecDepth 100000 in
theorem u_X1_hire {l : Launch} {g : GG} {o : Nat} {x1 : Int32} {n : Nat} {f : Nat → va_E} {K : Nat → (Nat → va_E) → Prop} (hV : U_X1_hire g o x1 n f K) : CtU l yX1_hire cX1_hire 3 0 0 0 0 [.ref (gbs g + o), .int x1] g n f K := by
  refine cu_intro RX1 (by decide) rfl (Nat.le_of_ble_eq_true rfl) ?_
  intro p e s mi below meth c C
  unfold U_X1_hire at hV
  refine ku_aload_n C dX1_hire_0 rfl rfl ?_
  refine ku_iload_n C dX1_hire_1 rfl rfl ?_
  obtain ⟨hof1, fs2, hef1, hlf1, hV⟩ := hV
  refine ku_put (ci := 1) (ty := .int) C 1 tyX1 hof1 hef1 rfl inlX1 tyX1_ok nmX1 (by decide) wd_57 rfl (by decide +kernel) rfl rfl hlf1 dX1_hire_2 (fun f1 hf1 => ?_)
  have hV := hV f1 hf1
  refine ku_iconst (v := 0) C dX1_hire_5 (by decide) ?_
  refine ku_istore_n (lv' := [(2, .int _), (0, .ref _), (1, .int _)]) C dX1_hire_6 rfl (by decide) rfl ?_
  obtain ⟨k, hV⟩ := hV
  refine ku_pick (lv' := [(0, .ref _), (1, .int _), (2, .int _)]) [1, 2, 0] rfl ?_
  exact u_X1_hire_7 C k hV
theorem uhd_X1_init : yX1_init.cls ≠ "java/lang/invoke/MethodHandle" ∧ yX1_init.cls ≠ "java/lang/invoke/VarHandle" ∧ (parseMethodDescriptor yX1_init.desc).map (fun d => d.parameters.length) = some 0 := by decide +kernel
def U_X1_init_35 (k : Nat) (g : GG) (o : Nat) (y1 : Int32) (n : Nat) (f : Nat → va_E) (cl sl : Nat) (K : Nat → (Nat → va_E) → Prop) : Prop := match k with
  | 0 => False
  | k + 1 => ((4 ≤ y1 → (((cl + 0) ≤ 29) ∧ (((sl + 0) ≤ 112) ∧ (o < n ∧ ∃ fs16 : List Value, f o = .inr (1, fs16) ∧ (U_X1_hire g (o) (1) (n) f (fun n14 f15 => (((cl + 0) ≤ 29) ∧ (((sl + 0) ≤ 112) ∧ (K n14 f15))))))))) ∧ (¬ 4 ≤ y1 → (o < n ∧ ∃ (fs20 : List Value) (o19 : Nat), f o = .inr (1, fs20) ∧ fs20[0]? = some (.ref (gbs g + o19)) ∧ (((cl + 1) ≤ 29) ∧ (((sl + 6) ≤ 112) ∧ (∀ f21 : Nat → va_E, f21 = va_up f n (.inr (6, [.int 0, .null, .int 0, .int 0, .null, .int 0])) → ((((cl + 1) + 6) ≤ 29) ∧ ((((sl + 6) + 21) ≤ 112) ∧ (U_X6_init g (n) (y1) ((n + 1)) f21 (fun n26 f27 => (o19 < n26 ∧ n < n26 ∧ ∃ (N29 : Nat) (h30 : Nat → Option Nat) (vs31 : List Value), f27 o19 = aR (gcW g) N29 h30 ∧ f27 n = .inr (6, vs31) ∧ vp_in y1 N29 ∧ ∀ f28 : Nat → va_E, f28 = va_up f27 o19 (aR (gcW g) N29 (va_up h30 (y1 : Int32).toNatClampNeg (some (gbs g + n)))) → (U_X1_init_35 k g o ((y1 + 1)) n26 f28 ((cl + 1) + 6) ((sl + 6) + 21) K))))))))))))
def U_X1_init (g : GG) (o : Nat) (n : Nat) (f : Nat → va_E) (K : Nat → (Nat → va_E) → Prop) : Prop := (∀ f1 : Nat → va_E, f1 = va_up f n (aR (gcW g) 4 (fun _ => none)) → (o < (n + 1) ∧ ∃ fs3 : List Value, f1 o = .inr (1, fs3) ∧ 0 < fs3.length ∧ ∀ f2 : Nat → va_E, f2 = va_up f1 o (.inr (1, fs3.set 0 (.ref (gbs g + n)))) → (o < (n + 1) ∧ ∃ fs5 : List Value, f2 o = .inr (1, fs5) ∧ 1 < fs5.length ∧ ∀ f4 : Nat → va_E, f4 = va_up f2 o (.inr (1, fs5.set 1 (.int (0)))) → (o < (n + 1) ∧ ∃ fs7 : List Value, f4 o = .inr (1, fs7) ∧ 2 < fs7.length ∧ ∀ f6 : Nat → va_E, f6 = va_up f4 o (.inr (1, fs7.set 2 (.int (0)))) → (o < (n + 1) ∧ ∃ fs9 : List Value, f6 o = .inr (1, fs9) ∧ 3 < fs9.length ∧ ∀ f8 : Nat → va_E, f8 = va_up f6 o (.inr (1, fs9.set 3 (.int (0)))) → (o < (n + 1) ∧ ∃ fs11 : List Value, f8 o = .inr (1, fs11) ∧ 4 < fs11.length ∧ ∀ f10 : Nat → va_E, f10 = va_up f8 o (.inr (1, fs11.set 4 (.int ((-2000000))))) → (∃ k : Nat, U_X1_init_35 k g o (0) (n + 1) f10 1 4 K)))))))
set_option maxHeartbeats 4000000 in
set_option maxRecDepth 100000 in
theorem u_X1_init_35 {p : Program} {l : Launch} {e : Env} {s : State} {mi : MethodId} {args : Array Value} {below : List Frame} {meth : Method} {c : Code} {g : GG} {o : Nat} {K : Nat → (Nat → va_E) → Prop} (C : CU p s mi args meth c cX1_init RX1 2 "<init>" none g) (k : Nat) : ∀ {y1 : Int32} {n : Nat} {f : Nat → va_E} {cl sl : Nat}, U_X1_init_35 k g o y1 n f cl sl K → UU p l e { frames := 3, cells := 29, slots := 112, locals := 53 } s mi args below meth c (MQ below (QU g K) args s 29 112 (gA g)) g 2 n f cl sl 35 [(0, .ref (gbs g + o)), (1, .int (y1))] [] := by
  induction k with
  | zero => intros; rename_i hV; exact absurd hV (by simp [U_X1_init_35])
  | succ k ih =>
    intro y1 n f cl sl hV
    unfold U_X1_init_35 at hV
    refine ku_iload_n C dX1_init_35 rfl rfl ?_
    refine ku_iconst (v := 4) C dX1_init_36 (by decide) ?_
    refine ku_icmp_ge C 60 dX1_init_37 rfl (fun c37 => ?_) (fun c37 => ?_)
    · have hV := hV.1 c37
      refine ku_aload_n C dX1_init_60 rfl rfl ?_
      refine ku_iconst (v := 1) C dX1_init_61 (by decide) ?_
      have hc12 := hV.1
      have hV := hV.2
      have hc13 := hV.1
      have hV := hV.2
      obtain ⟨hon14, fs16, hen14, hV⟩ := hV
      refine ku_callV (ci := 1) (nn := 1) C (u_X1_hire hV) hon14 hen14 rfl wd_86 wd_87 wd_88 wd_24 wd_89 hd_X1_hire rfl ⟨Nat.le_of_ble_eq_true rfl, Nat.le_of_ble_eq_true rfl⟩ ⟨hc12, hc13⟩ rfl (Nat.le_of_ble_eq_true rfl) dX1_init_62 (fun n14 f15 hV => ?_)
      have hc17 := hV.1
      have hV := hV.2
      have hc18 := hV.1
      have hV := hV.2
      exact ku_vret C hc17 hc18 hV dX1_init_65
    · have hV := hV.2 c37
      refine ku_aload_n C dX1_init_40 rfl rfl ?_
      obtain ⟨hoo19, fs20, o19, heo19, hxo19, hV⟩ := hV
      refine ku_get (ci := 1) C 0 hoo19 heo19 rfl inlX1 (by decide) wd_56 hxo19 dX1_init_41 ?_
      refine ku_iload_n C dX1_init_44 rfl rfl ?_
      have hc22 := hV.1
      have hV := hV.2
      have hc23 := hV.1
      have hV := hV.2
      refine ku_new (ci := 6) (fs := [.int 0, .null, .int 0, .int 0, .null, .int 0]) C tyX6 inlX6 tyX6_ok wd_55 wd_62 wd_63 rfl dfX6 hc22 hc23 dX1_init_45 (fun f21 hf21 => ?_)
      have hV := hV f21 hf21
      refine ku_dup C dX1_init_48 rfl ?_
      refine ku_iload_n C dX1_init_49 rfl rfl ?_
      have hc24 := hV.1
      have hV := hV.2
      have hc25 := hV.1
      have hV := hV.2
      refine ku_callI (nn := 1) C (u_X6_init hV) wd_64 wd_65 wd_63 wd_66 rfl uhd_X6_init rfl ⟨Nat.le_of_ble_eq_true rfl, Nat.le_of_ble_eq_true rfl⟩ ⟨hc24, hc25⟩ rfl (Nat.le_of_ble_eq_true rfl) dX1_init_50 (fun n26 f27 hV => ?_)
      obtain ⟨hof28, hpf28, N29, h30, vs31, hef28, hqf28, hif28, hV⟩ := hV
      refine ku_aast (ci := 6) C 3 hof28 hef28 rfl hpf28 hqf28 rfl hif28 dX1_init_53 (fun f28 hf28 => ?_)
      have hV := hV f28 hf28
      refine ku_iinc (v := _ + 1) (lv' := [(1, .int _), (0, .ref _)]) C dX1_init_54 rfl rfl (by decide) rfl ?_
      refine ku_goto C 35 dX1_init_57 rfl ?_
      refine ku_pick (lv' := [(0, .ref _), (1, .int _)]) [1, 0] rfl ?_
      exact ih hV
set_option maxHeartbeats 4000000 in
set_option maxRecDepth 100000 in
theorem u_X1_init {l : Launch} {g : GG} {o : Nat} {n : Nat} {f : Nat → va_E} {K : Nat → (Nat → va_E) → Prop} (hV : U_X1_init g o  n f K) : CtU l yX1_init cX1_init 2 3 53 29 112 [.ref (gbs g + o)] g n f K := by
  refine cu_intro RX1 (by decide) rfl (Nat.le_of_ble_eq_true rfl) ?_
  intro p e s mi below meth c C
  unfold U_X1_init at hV
  refine ku_aload_n C dX1_init_0 rfl rfl ?_
  refine ku_obj C wd_54 wd_10 wd_11 (Nat.le_of_ble_eq_true rfl) (Nat.le_of_ble_eq_true rfl) dX1_init_1 ?_
  refine ku_aload_n C dX1_init_4 rfl rfl ?_
  refine ku_iconst (v := 4) C dX1_init_5 (by decide) ?_
  refine ku_anew (N' := 4) C 3 wd_55 C.2.2.2.2.2.1.2.1.2 rfl (by decide) (by decide) (by decide) (Nat.le_of_ble_eq_true rfl) (Nat.le_of_ble_eq_true rfl) dX1_init_6 (fun f1 hf1 => ?_)
  have hV := hV f1 hf1
  obtain ⟨hof2, fs3, hef2, hlf2, hV⟩ := hV
  refine ku_putF (ci := 1) (ty := (.array (.object "FactShares$Worker"))) C 0 tyX1 hof2 hef2 rfl inlX1 tyX1_ok nmX1 (by decide) wd_56 rfl rfl (by decide +kernel) rfl rfl hlf2 dX1_init_9 (fun f2 hf2 => ?_)
  have hV := hV f2 hf2
  refine ku_aload_n C dX1_init_12 rfl rfl ?_
  refine ku_iconst (v := 0) C dX1_init_13 (by decide) ?_
  obtain ⟨hof4, fs5, hef4, hlf4, hV⟩ := hV
  refine ku_put (ci := 1) (ty := .int) C 1 tyX1 hof4 hef4 rfl inlX1 tyX1_ok nmX1 (by decide) wd_57 rfl (by decide +kernel) rfl rfl hlf4 dX1_init_14 (fun f4 hf4 => ?_)
  have hV := hV f4 hf4
  refine ku_aload_n C dX1_init_17 rfl rfl ?_
  refine ku_iconst (v := 0) C dX1_init_18 (by decide) ?_
  obtain ⟨hof6, fs7, hef6, hlf6, hV⟩ := hV
  refine ku_put (ci := 1) (ty := .int) C 2 tyX1 hof6 hef6 rfl inlX1 tyX1_ok nmX1 (by decide) wd_58 rfl (by decide +kernel) rfl rfl hlf6 dX1_init_19 (fun f6 hf6 => ?_)
  have hV := hV f6 hf6
  refine ku_aload_n C dX1_init_22 rfl rfl ?_
  refine ku_iconst (v := 0) C dX1_init_23 (by decide) ?_
  obtain ⟨hof8, fs9, hef8, hlf8, hV⟩ := hV
  refine ku_put (ci := 1) (ty := .int) C 3 tyX1 hof8 hef8 rfl inlX1 tyX1_ok nmX1 (by decide) wd_59 rfl (by decide +kernel) rfl rfl hlf8 dX1_init_24 (fun f8 hf8 => ?_)
  have hV := hV f8 hf8
  refine ku_aload_n C dX1_init_27 rfl rfl ?_
  refine ku_ldc (v := (-2000000)) C wd_60 dX1_init_28 ?_
  obtain ⟨hof10, fs11, hef10, hlf10, hV⟩ := hV
  refine ku_put (ci := 1) (ty := .int) C 4 tyX1 hof10 hef10 rfl inlX1 tyX1_ok nmX1 (by decide) wd_61 rfl (by decide +kernel) rfl rfl hlf10 dX1_init_30 (fun f10 hf10 => ?_)
  have hV := hV f10 hf10
  refine ku_iconst (v := 0) C dX1_init_33 (by decide) ?_
  refine ku_istore_n (lv' := [(1, .int _), (0, .ref _)]) C dX1_init_34 rfl (by decide) rfl ?_
  obtain ⟨k, hV⟩ := hV
  refine ku_pick (lv' := [(0, .ref _), (1, .int _)]) [1, 0] rfl ?_
  exact u_X1_init_35 C k hV
theorem uhd_X7_init : yX7_init.cls ≠ "java/lang/invoke/MethodHandle" ∧ yX7_init.cls ≠ "java/lang/invoke/VarHandle" ∧ (parseMethodDescriptor yX7_init.desc).map (fun d => d.parameters.length) = some 0 := by decide +kernel
def U_X7_init_81 (k : Nat) (g : GG) (o : Nat) (y1 : Int32) (n : Nat) (f : Nat → va_E) (cl sl : Nat) (K : Nat → (Nat → va_E) → Prop) : Prop := match k with
  | 0 => False
  | k + 1 => ((10 ≤ y1 → ((cl ≤ 78) ∧ ((sl ≤ 509) ∧ (K n f)))) ∧ (¬ 10 ≤ y1 → (o < n ∧ ∃ (fs35 : List Value) (o34 : Nat), f o = .inr (7, fs35) ∧ fs35[1]? = some (.ref (gbs g + o34)) ∧ (((cl + 1) ≤ 78) ∧ (((sl + 9) ≤ 509) ∧ (∀ f36 : Nat → va_E, f36 = va_up f n (.inr (4, [.null, .null, .null, .int 0, .int 0, .int 0, .int 0, .int 0, .int 0])) → ((((cl + 1) + 3) ≤ 78) ∧ ((((sl + 9) + 24) ≤ 509) ∧ (U_X4_init g (n)  ((n + 1)) f36 (fun n41 f42 => (o34 < n41 ∧ n < n41 ∧ ∃ (N44 : Nat) (h45 : Nat → Option Nat) (vs46 : List Value), f42 o34 = aR (gcS g) N44 h45 ∧ f42 n = .inr (4, vs46) ∧ vp_in y1 N44 ∧ ∀ f43 : Nat → va_E, f43 = va_up f42 o34 (aR (gcS g) N44 (va_up h45 (y1 : Int32).toNatClampNeg (some (gbs g + n)))) → (U_X7_init_81 k g o ((y1 + 1)) n41 f43 ((cl + 1) + 3) ((sl + 9) + 24) K))))))))))))
def U_X7_init (g : GG) (o : Nat) (n : Nat) (f : Nat → va_E) (K : Nat → (Nat → va_E) → Prop) : Prop := (∀ f1 : Nat → va_E, f1 = va_up f n (.inr (2, [.null, .null, .null])) → (U_X2_init g (n)  ((n + 1)) f1 (fun n2 f3 => (o < n2 ∧ ∃ fs5 : List Value, f3 o = .inr (7, fs5) ∧ 0 < fs5.length ∧ ∀ f4 : Nat → va_E, f4 = va_up f3 o (.inr (7, fs5.set 0 (.ref (gbs g + n)))) → (∀ f6 : Nat → va_E, f6 = va_up f4 n2 (aR (gcS g) 10 (fun _ => none)) → (o < (n2 + 1) ∧ ∃ fs8 : List Value, f6 o = .inr (7, fs8) ∧ 1 < fs8.length ∧ ∀ f7 : Nat → va_E, f7 = va_up f6 o (.inr (7, fs8.set 1 (.ref (gbs g + n2)))) → (∀ f9 : Nat → va_E, f9 = va_up f7 (n2 + 1) (.inr (3, [.null, .int 0, .int 0])) → (U_X3_init g ((n2 + 1))  (((n2 + 1) + 1)) f9 (fun n10 f11 => (o < n10 ∧ ∃ fs13 : List Value, f11 o = .inr (7, fs13) ∧ 2 < fs13.length ∧ ∀ f12 : Nat → va_E, f12 = va_up f11 o (.inr (7, fs13.set 2 (.ref (gbs g + (n2 + 1))))) → (∀ f14 : Nat → va_E, f14 = va_up f12 n10 (.inr (1, [.null, .int 0, .int 0, .int 0, .int 0])) → (U_X1_init g (n10)  ((n10 + 1)) f14 (fun n15 f16 => (o < n15 ∧ ∃ fs18 : List Value, f16 o = .inr (7, fs18) ∧ 3 < fs18.length ∧ ∀ f17 : Nat → va_E, f17 = va_up f16 o (.inr (7, fs18.set 3 (.ref (gbs g + n10)))) → (∀ f19 : Nat → va_E, f19 = va_up f17 n15 (.inr (5, [.int 0, .int 0, .int 0, .int 0, .int 0, .int 0])) → (U_X5_init g (n15)  ((n15 + 1)) f19 (fun n20 f21 => (o < n20 ∧ ∃ fs23 : List Value, f21 o = .inr (7, fs23) ∧ 4 < fs23.length ∧ ∀ f22 : Nat → va_E, f22 = va_up f21 o (.inr (7, fs23.set 4 (.ref (gbs g + n15)))) → (o < n20 ∧ ∃ fs25 : List Value, f22 o = .inr (7, fs25) ∧ 5 < fs25.length ∧ ∀ f24 : Nat → va_E, f24 = va_up f22 o (.inr (7, fs25.set 5 (.int (0)))) → (o < n20 ∧ ∃ fs27 : List Value, f24 o = .inr (7, fs27) ∧ 6 < fs27.length ∧ ∀ f26 : Nat → va_E, f26 = va_up f24 o (.inr (7, fs27.set 6 (.int (0)))) → (o < n20 ∧ ∃ fs29 : List Value, f26 o = .inr (7, fs29) ∧ 7 < fs29.length ∧ ∀ f28 : Nat → va_E, f28 = va_up f26 o (.inr (7, fs29.set 7 (.int (3)))) → (o < n20 ∧ ∃ fs31 : List Value, f28 o = .inr (7, fs31) ∧ 8 < fs31.length ∧ ∀ f30 : Nat → va_E, f30 = va_up f28 o (.inr (7, fs31.set 8 (.int (1000)))) → (∃ k : Nat, U_X7_init_81 k g o (0) n20 f30 38 179 K)))))))))))))))))))))))
set_option maxHeartbeats 4000000 in
set_option maxRecDepth 100000 in
theorem u_X7_init_81 {p : Program} {l : Launch} {e : Env} {s : State} {mi : MethodId} {args : Array Value} {below : List Frame} {meth : Method} {c : Code} {g : GG} {o : Nat} {K : Nat → (Nat → va_E) → Prop} (C : CU p s mi args meth c cX7_init RX7 2 "<init>" none g) (k : Nat) : ∀ {y1 : Int32} {n : Nat} {f : Nat → va_E} {cl sl : Nat}, U_X7_init_81 k g o y1 n f cl sl K → UU p l e { frames := 4, cells := 78, slots := 509, locals := 74 } s mi args below meth c (MQ below (QU g K) args s 78 509 (gA g)) g 2 n f cl sl 81 [(0, .ref (gbs g + o)), (1, .int (y1))] [] := by
  induction k with
  | zero => intros; rename_i hV; exact absurd hV (by simp [U_X7_init_81])
  | succ k ih =>
    intro y1 n f cl sl hV
    unfold U_X7_init_81 at hV
    refine ku_iload_n C dX7_init_81 rfl rfl ?_
    refine ku_bipush (v := 10) C dX7_init_82 (by decide) ?_
    refine ku_icmp_ge C 106 dX7_init_84 rfl (fun c84 => ?_) (fun c84 => ?_)
    · have hV := hV.1 c84
      have hc32 := hV.1
      have hV := hV.2
      have hc33 := hV.1
      have hV := hV.2
      exact ku_vret C hc32 hc33 hV dX7_init_106
    · have hV := hV.2 c84
      refine ku_aload_n C dX7_init_87 rfl rfl ?_
      obtain ⟨hoo34, fs35, o34, heo34, hxo34, hV⟩ := hV
      refine ku_get (ci := 7) C 1 hoo34 heo34 rfl inlX7 (by decide) wd_17 hxo34 dX7_init_88 ?_
      refine ku_iload_n C dX7_init_91 rfl rfl ?_
      have hc37 := hV.1
      have hV := hV.2
      have hc38 := hV.1
      have hV := hV.2
      refine ku_new (ci := 4) (fs := [.null, .null, .null, .int 0, .int 0, .int 0, .int 0, .int 0, .int 0]) C tyX4 inlX4 tyX4_ok wd_16 wd_34 wd_35 rfl dfX4 hc37 hc38 dX7_init_92 (fun f36 hf36 => ?_)
      have hV := hV f36 hf36
      refine ku_dup C dX7_init_95 rfl ?_
      have hc39 := hV.1
      have hV := hV.2
      have hc40 := hV.1
      have hV := hV.2
      refine ku_callN (nn := 0) C (u_X4_init hV) C.2.2.2.2.2.1.2.2.2.2.2.1 wd_102 wd_35 wd_103 rfl uhd_X4_init rfl ⟨Nat.le_of_ble_eq_true rfl, Nat.le_of_ble_eq_true rfl⟩ ⟨hc39, hc40⟩ rfl (Nat.le_of_ble_eq_true rfl) dX7_init_96 (fun n41 f42 hV => ?_)
      obtain ⟨hof43, hpf43, N44, h45, vs46, hef43, hqf43, hif43, hV⟩ := hV
      refine ku_aast (ci := 4) C 2 hof43 hef43 rfl hpf43 hqf43 rfl hif43 dX7_init_99 (fun f43 hf43 => ?_)
      have hV := hV f43 hf43
      refine ku_iinc (v := _ + 1) (lv' := [(1, .int _), (0, .ref _)]) C dX7_init_100 rfl rfl (by decide) rfl ?_
      refine ku_goto C 81 dX7_init_103 rfl ?_
      refine ku_pick (lv' := [(0, .ref _), (1, .int _)]) [1, 0] rfl ?_
      exact ih hV
set_option maxHeartbeats 4000000 in
set_option maxRecDepth 100000 in
theorem u_X7_init {l : Launch} {g : GG} {o : Nat} {n : Nat} {f : Nat → va_E} {K : Nat → (Nat → va_E) → Prop} (hV : U_X7_init g o  n f K) : CtU l yX7_init cX7_init 2 4 74 78 509 [.ref (gbs g + o)] g n f K := by
  refine cu_intro RX7 (by decide) rfl (Nat.le_of_ble_eq_true rfl) ?_
  intro p e s mi below meth c C
  unfold U_X7_init at hV
  refine ku_aload_n C dX7_init_0 rfl rfl ?_
  refine ku_obj C wd_9 wd_10 wd_11 (Nat.le_of_ble_eq_true rfl) (Nat.le_of_ble_eq_true rfl) dX7_init_1 ?_
  refine ku_aload_n C dX7_init_4 rfl rfl ?_
  refine ku_new (ci := 2) (fs := [.null, .null, .null]) C tyX2 inlX2 tyX2_ok wd_12 wd_13 wd_14 rfl dfX2 (Nat.le_of_ble_eq_true rfl) (Nat.le_of_ble_eq_true rfl) dX7_init_5 (fun f1 hf1 => ?_)
  have hV := hV f1 hf1
  refine ku_dup C dX7_init_8 rfl ?_
  refine ku_callN (nn := 0) C (u_X2_init hV) C.2.2.2.2.2.1.2.2.1 wd_36 wd_14 wd_37 rfl uhd_X2_init rfl ⟨Nat.le_of_ble_eq_true rfl, Nat.le_of_ble_eq_true rfl⟩ ⟨(Nat.le_of_ble_eq_true rfl), (Nat.le_of_ble_eq_true rfl)⟩ rfl (Nat.le_of_ble_eq_true rfl) dX7_init_9 (fun n2 f3 hV => ?_)
  obtain ⟨hof4, fs5, hef4, hlf4, hV⟩ := hV
  refine ku_putF (ci := 7) (ty := (.object "FactShares$Facts")) C 0 tyX7 hof4 hef4 rfl inlX7 tyX7_ok nmX7 (by decide) wd_15 rfl rfl (by decide +kernel) rfl rfl hlf4 dX7_init_12 (fun f4 hf4 => ?_)
  have hV := hV f4 hf4
  refine ku_aload_n C dX7_init_15 rfl rfl ?_
  refine ku_bipush (v := 10) C dX7_init_16 (by decide) ?_
  refine ku_anew (N' := 10) C 2 wd_16 C.2.2.2.2.2.1.2.1.1 rfl (by decide) (by decide) (by decide) (Nat.le_of_ble_eq_true rfl) (Nat.le_of_ble_eq_true rfl) dX7_init_18 (fun f6 hf6 => ?_)
  have hV := hV f6 hf6
  obtain ⟨hof7, fs8, hef7, hlf7, hV⟩ := hV
  refine ku_putF (ci := 7) (ty := (.array (.object "FactShares$Share"))) C 1 tyX7 hof7 hef7 rfl inlX7 tyX7_ok nmX7 (by decide) wd_17 rfl rfl (by decide +kernel) rfl rfl hlf7 dX7_init_21 (fun f7 hf7 => ?_)
  have hV := hV f7 hf7
  refine ku_aload_n C dX7_init_24 rfl rfl ?_
  refine ku_new (ci := 3) (fs := [.null, .int 0, .int 0]) C tyX3 inlX3 tyX3_ok wd_18 wd_19 wd_20 rfl dfX3 (Nat.le_of_ble_eq_true rfl) (Nat.le_of_ble_eq_true rfl) dX7_init_25 (fun f9 hf9 => ?_)
  have hV := hV f9 hf9
  refine ku_dup C dX7_init_28 rfl ?_
  refine ku_callN (nn := 0) C (u_X3_init hV) C.2.2.2.2.2.1.2.2.2.1 wd_44 wd_20 wd_45 rfl uhd_X3_init rfl ⟨Nat.le_of_ble_eq_true rfl, Nat.le_of_ble_eq_true rfl⟩ ⟨(Nat.le_of_ble_eq_true rfl), (Nat.le_of_ble_eq_true rfl)⟩ rfl (Nat.le_of_ble_eq_true rfl) dX7_init_29 (fun n10 f11 hV => ?_)
  obtain ⟨hof12, fs13, hef12, hlf12, hV⟩ := hV
  refine ku_putF (ci := 7) (ty := (.object "FactShares$Line")) C 2 tyX7 hof12 hef12 rfl inlX7 tyX7_ok nmX7 (by decide) wd_21 rfl rfl (by decide +kernel) rfl rfl hlf12 dX7_init_32 (fun f12 hf12 => ?_)
  have hV := hV f12 hf12
  refine ku_aload_n C dX7_init_35 rfl rfl ?_
  refine ku_new (ci := 1) (fs := [.null, .int 0, .int 0, .int 0, .int 0]) C tyX1 inlX1 tyX1_ok wd_22 wd_23 wd_24 rfl dfX1 (Nat.le_of_ble_eq_true rfl) (Nat.le_of_ble_eq_true rfl) dX7_init_36 (fun f14 hf14 => ?_)
  have hV := hV f14 hf14
  refine ku_dup C dX7_init_39 rfl ?_
  refine ku_callI (nn := 0) C (u_X1_init hV) wd_51 wd_52 wd_24 wd_53 rfl uhd_X1_init rfl ⟨Nat.le_of_ble_eq_true rfl, Nat.le_of_ble_eq_true rfl⟩ ⟨(Nat.le_of_ble_eq_true rfl), (Nat.le_of_ble_eq_true rfl)⟩ rfl (Nat.le_of_ble_eq_true rfl) dX7_init_40 (fun n15 f16 hV => ?_)
  obtain ⟨hof17, fs18, hef17, hlf17, hV⟩ := hV
  refine ku_putF (ci := 7) (ty := (.object "FactShares$Crew")) C 3 tyX7 hof17 hef17 rfl inlX7 tyX7_ok nmX7 (by decide) wd_25 rfl rfl (by decide +kernel) rfl rfl hlf17 dX7_init_43 (fun f17 hf17 => ?_)
  have hV := hV f17 hf17
  refine ku_aload_n C dX7_init_46 rfl rfl ?_
  refine ku_new (ci := 5) (fs := [.int 0, .int 0, .int 0, .int 0, .int 0, .int 0]) C tyX5 inlX5 tyX5_ok wd_26 wd_27 wd_28 rfl dfX5 (Nat.le_of_ble_eq_true rfl) (Nat.le_of_ble_eq_true rfl) dX7_init_47 (fun f19 hf19 => ?_)
  have hV := hV f19 hf19
  refine ku_dup C dX7_init_50 rfl ?_
  refine ku_callN (nn := 0) C (u_X5_init hV) C.2.2.2.2.2.1.2.2.2.2.1 wd_92 wd_28 wd_93 rfl uhd_X5_init rfl ⟨Nat.le_of_ble_eq_true rfl, Nat.le_of_ble_eq_true rfl⟩ ⟨(Nat.le_of_ble_eq_true rfl), (Nat.le_of_ble_eq_true rfl)⟩ rfl (Nat.le_of_ble_eq_true rfl) dX7_init_51 (fun n20 f21 hV => ?_)
  obtain ⟨hof22, fs23, hef22, hlf22, hV⟩ := hV
  refine ku_putF (ci := 7) (ty := (.object "FactShares$Tally")) C 4 tyX7 hof22 hef22 rfl inlX7 tyX7_ok nmX7 (by decide) wd_29 rfl rfl (by decide +kernel) rfl rfl hlf22 dX7_init_54 (fun f22 hf22 => ?_)
  have hV := hV f22 hf22
  refine ku_aload_n C dX7_init_57 rfl rfl ?_
  refine ku_iconst (v := 0) C dX7_init_58 (by decide) ?_
  obtain ⟨hof24, fs25, hef24, hlf24, hV⟩ := hV
  refine ku_put (ci := 7) (ty := .int) C 5 tyX7 hof24 hef24 rfl inlX7 tyX7_ok nmX7 (by decide) wd_30 rfl (by decide +kernel) rfl rfl hlf24 dX7_init_59 (fun f24 hf24 => ?_)
  have hV := hV f24 hf24
  refine ku_aload_n C dX7_init_62 rfl rfl ?_
  refine ku_iconst (v := 0) C dX7_init_63 (by decide) ?_
  obtain ⟨hof26, fs27, hef26, hlf26, hV⟩ := hV
  refine ku_put (ci := 7) (ty := .int) C 6 tyX7 hof26 hef26 rfl inlX7 tyX7_ok nmX7 (by decide) wd_31 rfl (by decide +kernel) rfl rfl hlf26 dX7_init_64 (fun f26 hf26 => ?_)
  have hV := hV f26 hf26
  refine ku_aload_n C dX7_init_67 rfl rfl ?_
  refine ku_iconst (v := 3) C dX7_init_68 (by decide) ?_
  obtain ⟨hof28, fs29, hef28, hlf28, hV⟩ := hV
  refine ku_put (ci := 7) (ty := .int) C 7 tyX7 hof28 hef28 rfl inlX7 tyX7_ok nmX7 (by decide) wd_32 rfl (by decide +kernel) rfl rfl hlf28 dX7_init_69 (fun f28 hf28 => ?_)
  have hV := hV f28 hf28
  refine ku_aload_n C dX7_init_72 rfl rfl ?_
  refine ku_sipush (v := 1000) C dX7_init_73 (by decide) ?_
  obtain ⟨hof30, fs31, hef30, hlf30, hV⟩ := hV
  refine ku_put (ci := 7) (ty := .int) C 8 tyX7 hof30 hef30 rfl inlX7 tyX7_ok nmX7 (by decide) wd_33 rfl (by decide +kernel) rfl rfl hlf30 dX7_init_76 (fun f30 hf30 => ?_)
  have hV := hV f30 hf30
  refine ku_iconst (v := 0) C dX7_init_79 (by decide) ?_
  refine ku_istore_n (lv' := [(1, .int _), (0, .ref _)]) C dX7_init_80 rfl (by decide) rfl ?_
  obtain ⟨k, hV⟩ := hV
  refine ku_pick (lv' := [(0, .ref _), (1, .int _)]) [1, 0] rfl ?_
  exact u_X7_init_81 C k hV
theorem uhd_X8_init : yX8_init.cls ≠ "java/lang/invoke/MethodHandle" ∧ yX8_init.cls ≠ "java/lang/invoke/VarHandle" ∧ (parseMethodDescriptor yX8_init.desc).map (fun d => d.parameters.length) = some 0 := by decide +kernel
def U_X8_init_195 (k : Nat) (g : GG) (o : Nat) (y1 : Int32) (n : Nat) (f : Nat → va_E) (cl sl : Nat) (K : Nat → (Nat → va_E) → Prop) : Prop := match k with
  | 0 => False
  | k + 1 => ((10 ≤ y1 → ((cl ≤ 20) ∧ ((sl ≤ 862) ∧ (K n f)))) ∧ (¬ 10 ≤ y1 → (o < n ∧ ∃ (fs77 : List Value) (o76 : Nat), f o = .inr (8, fs77) ∧ fs77[0]? = some (.ref (gbs g + o76)) ∧ (o76 < n ∧ ∃ (N79 : Nat) (h80 : Nat → Int32), f o76 = aI (gcI g) N79 h80 ∧ vp_in y1 N79 ∧ ∀ f78 : Nat → va_E, f78 = va_up f o76 (aI (gcI g) N79 (upd h80 (y1 : Int32).toNatClampNeg 1)) → (o < n ∧ ∃ (fs82 : List Value) (o81 : Nat), f78 o = .inr (8, fs82) ∧ fs82[15]? = some (.ref (gbs g + o81)) ∧ (o81 < n ∧ ∃ (N84 : Nat) (h85 : Nat → Int32), f78 o81 = aI (gcI g) N84 h85 ∧ vp_in y1 N84 ∧ ∀ f83 : Nat → va_E, f83 = va_up f78 o81 (aI (gcI g) N84 (upd h85 (y1 : Int32).toNatClampNeg (-2000000))) → (U_X8_init_195 k g o ((y1 + 1)) n f83 cl sl K)))))))
def U_X8_init (g : GG) (o : Nat) (n : Nat) (f : Nat → va_E) (K : Nat → (Nat → va_E) → Prop) : Prop := (∀ f1 : Nat → va_E, f1 = va_up f n (aI (gcI g) 10 (fun _ => 0)) → (o < (n + 1) ∧ ∃ fs3 : List Value, f1 o = .inr (8, fs3) ∧ 0 < fs3.length ∧ ∀ f2 : Nat → va_E, f2 = va_up f1 o (.inr (8, fs3.set 0 (.ref (gbs g + n)))) → (∀ f4 : Nat → va_E, f4 = va_up f2 (n + 1) (aI (gcI g) 10 (fun _ => 0)) → (o < ((n + 1) + 1) ∧ ∃ fs6 : List Value, f4 o = .inr (8, fs6) ∧ 1 < fs6.length ∧ ∀ f5 : Nat → va_E, f5 = va_up f4 o (.inr (8, fs6.set 1 (.ref (gbs g + (n + 1))))) → (∀ f7 : Nat → va_E, f7 = va_up f5 ((n + 1) + 1) (aI (gcI g) 10 (fun _ => 0)) → (o < (((n + 1) + 1) + 1) ∧ ∃ fs9 : List Value, f7 o = .inr (8, fs9) ∧ 3 < fs9.length ∧ ∀ f8 : Nat → va_E, f8 = va_up f7 o (.inr (8, fs9.set 3 (.ref (gbs g + ((n + 1) + 1))))) → (∀ f10 : Nat → va_E, f10 = va_up f8 (((n + 1) + 1) + 1) (aI (gcI g) 10 (fun _ => 0)) → (o < ((((n + 1) + 1) + 1) + 1) ∧ ∃ fs12 : List Value, f10 o = .inr (8, fs12) ∧ 4 < fs12.length ∧ ∀ f11 : Nat → va_E, f11 = va_up f10 o (.inr (8, fs12.set 4 (.ref (gbs g + (((n + 1) + 1) + 1))))) → (∀ f13 : Nat → va_E, f13 = va_up f11 ((((n + 1) + 1) + 1) + 1) (aI (gcI g) 80 (fun _ => 0)) → (o < (((((n + 1) + 1) + 1) + 1) + 1) ∧ ∃ fs15 : List Value, f13 o = .inr (8, fs15) ∧ 5 < fs15.length ∧ ∀ f14 : Nat → va_E, f14 = va_up f13 o (.inr (8, fs15.set 5 (.ref (gbs g + ((((n + 1) + 1) + 1) + 1))))) → (∀ f16 : Nat → va_E, f16 = va_up f14 (((((n + 1) + 1) + 1) + 1) + 1) (aI (gcI g) 80 (fun _ => 0)) → (o < ((((((n + 1) + 1) + 1) + 1) + 1) + 1) ∧ ∃ fs18 : List Value, f16 o = .inr (8, fs18) ∧ 6 < fs18.length ∧ ∀ f17 : Nat → va_E, f17 = va_up f16 o (.inr (8, fs18.set 6 (.ref (gbs g + (((((n + 1) + 1) + 1) + 1) + 1))))) → (∀ f19 : Nat → va_E, f19 = va_up f17 ((((((n + 1) + 1) + 1) + 1) + 1) + 1) (aI (gcI g) 80 (fun _ => 0)) → (o < (((((((n + 1) + 1) + 1) + 1) + 1) + 1) + 1) ∧ ∃ fs21 : List Value, f19 o = .inr (8, fs21) ∧ 7 < fs21.length ∧ ∀ f20 : Nat → va_E, f20 = va_up f19 o (.inr (8, fs21.set 7 (.ref (gbs g + ((((((n + 1) + 1) + 1) + 1) + 1) + 1))))) → (∀ f22 : Nat → va_E, f22 = va_up f20 (((((((n + 1) + 1) + 1) + 1) + 1) + 1) + 1) (aI (gcI g) 10 (fun _ => 0)) → (o < ((((((((n + 1) + 1) + 1) + 1) + 1) + 1) + 1) + 1) ∧ ∃ fs24 : List Value, f22 o = .inr (8, fs24) ∧ 8 < fs24.length ∧ ∀ f23 : Nat → va_E, f23 = va_up f22 o (.inr (8, fs24.set 8 (.ref (gbs g + (((((((n + 1) + 1) + 1) + 1) + 1) + 1) + 1))))) → (∀ f25 : Nat → va_E, f25 = va_up f23 ((((((((n + 1) + 1) + 1) + 1) + 1) + 1) + 1) + 1) (aI (gcI g) 10 (fun _ => 0)) → (o < (((((((((n + 1) + 1) + 1) + 1) + 1) + 1) + 1) + 1) + 1) ∧ ∃ fs27 : List Value, f25 o = .inr (8, fs27) ∧ 9 < fs27.length ∧ ∀ f26 : Nat → va_E, f26 = va_up f25 o (.inr (8, fs27.set 9 (.ref (gbs g + ((((((((n + 1) + 1) + 1) + 1) + 1) + 1) + 1) + 1))))) → (∀ f28 : Nat → va_E, f28 = va_up f26 (((((((((n + 1) + 1) + 1) + 1) + 1) + 1) + 1) + 1) + 1) (aI (gcI g) 30 (fun _ => 0)) → (o < ((((((((((n + 1) + 1) + 1) + 1) + 1) + 1) + 1) + 1) + 1) + 1) ∧ ∃ fs30 : List Value, f28 o = .inr (8, fs30) ∧ 10 < fs30.length ∧ ∀ f29 : Nat → va_E, f29 = va_up f28 o (.inr (8, fs30.set 10 (.ref (gbs g + (((((((((n + 1) + 1) + 1) + 1) + 1) + 1) + 1) + 1) + 1))))) → (∀ f31 : Nat → va_E, f31 = va_up f29 ((((((((((n + 1) + 1) + 1) + 1) + 1) + 1) + 1) + 1) + 1) + 1) (aI (gcI g) 30 (fun _ => 0)) → (o < (((((((((((n + 1) + 1) + 1) + 1) + 1) + 1) + 1) + 1) + 1) + 1) + 1) ∧ ∃ fs33 : List Value, f31 o = .inr (8, fs33) ∧ 11 < fs33.length ∧ ∀ f32 : Nat → va_E, f32 = va_up f31 o (.inr (8, fs33.set 11 (.ref (gbs g + ((((((((((n + 1) + 1) + 1) + 1) + 1) + 1) + 1) + 1) + 1) + 1))))) → (∀ f34 : Nat → va_E, f34 = va_up f32 (((((((((((n + 1) + 1) + 1) + 1) + 1) + 1) + 1) + 1) + 1) + 1) + 1) (aI (gcI g) 30 (fun _ => 0)) → (o < ((((((((((((n + 1) + 1) + 1) + 1) + 1) + 1) + 1) + 1) + 1) + 1) + 1) + 1) ∧ ∃ fs36 : List Value, f34 o = .inr (8, fs36) ∧ 12 < fs36.length ∧ ∀ f35 : Nat → va_E, f35 = va_up f34 o (.inr (8, fs36.set 12 (.ref (gbs g + (((((((((((n + 1) + 1) + 1) + 1) + 1) + 1) + 1) + 1) + 1) + 1) + 1))))) → (∀ f37 : Nat → va_E, f37 = va_up f35 ((((((((((((n + 1) + 1) + 1) + 1) + 1) + 1) + 1) + 1) + 1) + 1) + 1) + 1) (aI (gcI g) 30 (fun _ => 0)) → (o < (((((((((((((n + 1) + 1) + 1) + 1) + 1) + 1) + 1) + 1) + 1) + 1) + 1) + 1) + 1) ∧ ∃ fs39 : List Value, f37 o = .inr (8, fs39) ∧ 13 < fs39.length ∧ ∀ f38 : Nat → va_E, f38 = va_up f37 o (.inr (8, fs39.set 13 (.ref (gbs g + ((((((((((((n + 1) + 1) + 1) + 1) + 1) + 1) + 1) + 1) + 1) + 1) + 1) + 1))))) → (∀ f40 : Nat → va_E, f40 = va_up f38 (((((((((((((n + 1) + 1) + 1) + 1) + 1) + 1) + 1) + 1) + 1) + 1) + 1) + 1) + 1) (aI (gcI g) 10 (fun _ => 0)) → (o < ((((((((((((((n + 1) + 1) + 1) + 1) + 1) + 1) + 1) + 1) + 1) + 1) + 1) + 1) + 1) + 1) ∧ ∃ fs42 : List Value, f40 o = .inr (8, fs42) ∧ 14 < fs42.length ∧ ∀ f41 : Nat → va_E, f41 = va_up f40 o (.inr (8, fs42.set 14 (.ref (gbs g + (((((((((((((n + 1) + 1) + 1) + 1) + 1) + 1) + 1) + 1) + 1) + 1) + 1) + 1) + 1))))) → (∀ f43 : Nat → va_E, f43 = va_up f41 ((((((((((((((n + 1) + 1) + 1) + 1) + 1) + 1) + 1) + 1) + 1) + 1) + 1) + 1) + 1) + 1) (aI (gcI g) 10 (fun _ => 0)) → (o < (((((((((((((((n + 1) + 1) + 1) + 1) + 1) + 1) + 1) + 1) + 1) + 1) + 1) + 1) + 1) + 1) + 1) ∧ ∃ fs45 : List Value, f43 o = .inr (8, fs45) ∧ 15 < fs45.length ∧ ∀ f44 : Nat → va_E, f44 = va_up f43 o (.inr (8, fs45.set 15 (.ref (gbs g + ((((((((((((((n + 1) + 1) + 1) + 1) + 1) + 1) + 1) + 1) + 1) + 1) + 1) + 1) + 1) + 1))))) → (∀ f46 : Nat → va_E, f46 = va_up f44 (((((((((((((((n + 1) + 1) + 1) + 1) + 1) + 1) + 1) + 1) + 1) + 1) + 1) + 1) + 1) + 1) + 1) (aI (gcZ g) 10 (fun _ => 0)) → (o < ((((((((((((((((n + 1) + 1) + 1) + 1) + 1) + 1) + 1) + 1) + 1) + 1) + 1) + 1) + 1) + 1) + 1) + 1) ∧ ∃ fs48 : List Value, f46 o = .inr (8, fs48) ∧ 16 < fs48.length ∧ ∀ f47 : Nat → va_E, f47 = va_up f46 o (.inr (8, fs48.set 16 (.ref (gbs g + (((((((((((((((n + 1) + 1) + 1) + 1) + 1) + 1) + 1) + 1) + 1) + 1) + 1) + 1) + 1) + 1) + 1))))) → (∀ f49 : Nat → va_E, f49 = va_up f47 ((((((((((((((((n + 1) + 1) + 1) + 1) + 1) + 1) + 1) + 1) + 1) + 1) + 1) + 1) + 1) + 1) + 1) + 1) (aI (gcI g) 400 (fun _ => 0)) → (o < (((((((((((((((((n + 1) + 1) + 1) + 1) + 1) + 1) + 1) + 1) + 1) + 1) + 1) + 1) + 1) + 1) + 1) + 1) + 1) ∧ ∃ fs51 : List Value, f49 o = .inr (8, fs51) ∧ 17 < fs51.length ∧ ∀ f50 : Nat → va_E, f50 = va_up f49 o (.inr (8, fs51.set 17 (.ref (gbs g + ((((((((((((((((n + 1) + 1) + 1) + 1) + 1) + 1) + 1) + 1) + 1) + 1) + 1) + 1) + 1) + 1) + 1) + 1))))) → (∀ f52 : Nat → va_E, f52 = va_up f50 (((((((((((((((((n + 1) + 1) + 1) + 1) + 1) + 1) + 1) + 1) + 1) + 1) + 1) + 1) + 1) + 1) + 1) + 1) + 1) (aI (gcZ g) 4 (fun _ => 0)) → (o < ((((((((((((((((((n + 1) + 1) + 1) + 1) + 1) + 1) + 1) + 1) + 1) + 1) + 1) + 1) + 1) + 1) + 1) + 1) + 1) + 1) ∧ ∃ fs54 : List Value, f52 o = .inr (8, fs54) ∧ 20 < fs54.length ∧ ∀ f53 : Nat → va_E, f53 = va_up f52 o (.inr (8, fs54.set 20 (.ref (gbs g + (((((((((((((((((n + 1) + 1) + 1) + 1) + 1) + 1) + 1) + 1) + 1) + 1) + 1) + 1) + 1) + 1) + 1) + 1) + 1))))) → (∀ f55 : Nat → va_E, f55 = va_up f53 ((((((((((((((((((n + 1) + 1) + 1) + 1) + 1) + 1) + 1) + 1) + 1) + 1) + 1) + 1) + 1) + 1) + 1) + 1) + 1) + 1) (aI (gcI g) 4 (fun _ => 0)) → (o < (((((((((((((((((((n + 1) + 1) + 1) + 1) + 1) + 1) + 1) + 1) + 1) + 1) + 1) + 1) + 1) + 1) + 1) + 1) + 1) + 1) + 1) ∧ ∃ fs57 : List Value, f55 o = .inr (8, fs57) ∧ 21 < fs57.length ∧ ∀ f56 : Nat → va_E, f56 = va_up f55 o (.inr (8, fs57.set 21 (.ref (gbs g + ((((((((((((((((((n + 1) + 1) + 1) + 1) + 1) + 1) + 1) + 1) + 1) + 1) + 1) + 1) + 1) + 1) + 1) + 1) + 1) + 1))))) → (∀ f58 : Nat → va_E, f58 = va_up f56 (((((((((((((((((((n + 1) + 1) + 1) + 1) + 1) + 1) + 1) + 1) + 1) + 1) + 1) + 1) + 1) + 1) + 1) + 1) + 1) + 1) + 1) (aI (gcI g) 4 (fun _ => 0)) → (o < ((((((((((((((((((((n + 1) + 1) + 1) + 1) + 1) + 1) + 1) + 1) + 1) + 1) + 1) + 1) + 1) + 1) + 1) + 1) + 1) + 1) + 1) + 1) ∧ ∃ fs60 : List Value, f58 o = .inr (8, fs60) ∧ 22 < fs60.length ∧ ∀ f59 : Nat → va_E, f59 = va_up f58 o (.inr (8, fs60.set 22 (.ref (gbs g + (((((((((((((((((((n + 1) + 1) + 1) + 1) + 1) + 1) + 1) + 1) + 1) + 1) + 1) + 1) + 1) + 1) + 1) + 1) + 1) + 1) + 1))))) → (o < ((((((((((((((((((((n + 1) + 1) + 1) + 1) + 1) + 1) + 1) + 1) + 1) + 1) + 1) + 1) + 1) + 1) + 1) + 1) + 1) + 1) + 1) + 1) ∧ ∃ fs62 : List Value, f59 o = .inr (8, fs62) ∧ 25 < fs62.length ∧ ∀ f61 : Nat → va_E, f61 = va_up f59 o (.inr (8, fs62.set 25 (.int ((-2000000))))) → (o < ((((((((((((((((((((n + 1) + 1) + 1) + 1) + 1) + 1) + 1) + 1) + 1) + 1) + 1) + 1) + 1) + 1) + 1) + 1) + 1) + 1) + 1) + 1) ∧ ∃ fs64 : List Value, f61 o = .inr (8, fs64) ∧ 26 < fs64.length ∧ ∀ f63 : Nat → va_E, f63 = va_up f61 o (.inr (8, fs64.set 26 (.int (3)))) → (o < ((((((((((((((((((((n + 1) + 1) + 1) + 1) + 1) + 1) + 1) + 1) + 1) + 1) + 1) + 1) + 1) + 1) + 1) + 1) + 1) + 1) + 1) + 1) ∧ ∃ fs66 : List Value, f63 o = .inr (8, fs66) ∧ 27 < fs66.length ∧ ∀ f65 : Nat → va_E, f65 = va_up f63 o (.inr (8, fs66.set 27 (.int (1000)))) → (o < ((((((((((((((((((((n + 1) + 1) + 1) + 1) + 1) + 1) + 1) + 1) + 1) + 1) + 1) + 1) + 1) + 1) + 1) + 1) + 1) + 1) + 1) + 1) ∧ ∃ fs68 : List Value, f65 o = .inr (8, fs68) ∧ 29 < fs68.length ∧ ∀ f67 : Nat → va_E, f67 = va_up f65 o (.inr (8, fs68.set 29 (.int ((-2000000))))) → (o < ((((((((((((((((((((n + 1) + 1) + 1) + 1) + 1) + 1) + 1) + 1) + 1) + 1) + 1) + 1) + 1) + 1) + 1) + 1) + 1) + 1) + 1) + 1) ∧ ∃ (fs70 : List Value) (o69 : Nat), f67 o = .inr (8, fs70) ∧ fs70[20]? = some (.ref (gbs g + o69)) ∧ (o69 < ((((((((((((((((((((n + 1) + 1) + 1) + 1) + 1) + 1) + 1) + 1) + 1) + 1) + 1) + 1) + 1) + 1) + 1) + 1) + 1) + 1) + 1) + 1) ∧ ∃ (N72 : Nat) (h73 : Nat → Int32), f67 o69 = aI (gcZ g) N72 h73 ∧ vp_in 0 N72 ∧ ∀ f71 : Nat → va_E, f71 = va_up f67 o69 (aI (gcZ g) N72 (upd h73 (0 : Int32).toNatClampNeg 1)) → (∃ k : Nat, U_X8_init_195 k g o (0) ((((((((((((((((((((n + 1) + 1) + 1) + 1) + 1) + 1) + 1) + 1) + 1) + 1) + 1) + 1) + 1) + 1) + 1) + 1) + 1) + 1) + 1) + 1) f71 20 862 K)))))))))))))))))))))))))))))))))))))))))))))))
set_option maxHeartbeats 4000000 in
set_option maxRecDepth 100000 in
theorem u_X8_init_195 {p : Program} {l : Launch} {e : Env} {s : State} {mi : MethodId} {args : Array Value} {below : List Frame} {meth : Method} {c : Code} {g : GG} {o : Nat} {K : Nat → (Nat → va_E) → Prop} (C : CU p s mi args meth c cX8_init RX8 2 "<init>" none g) (k : Nat) : ∀ {y1 : Int32} {n : Nat} {f : Nat → va_E} {cl sl : Nat}, U_X8_init_195 k g o y1 n f cl sl K → UU p l e { frames := 1, cells := 20, slots := 862, locals := 12 } s mi args below meth c (MQ below (QU g K) args s 20 862 (gA g)) g 2 n f cl sl 195 [(0, .ref (gbs g + o)), (1, .int (y1))] [] := by
  induction k with
  | zero => intros; rename_i hV; exact absurd hV (by simp [U_X8_init_195])
  | succ k ih =>
    intro y1 n f cl sl hV
    unfold U_X8_init_195 at hV
    refine ku_iload_n C dX8_init_195 rfl rfl ?_
    refine ku_bipush (v := 10) C dX8_init_196 (by decide) ?_
    refine ku_icmp_ge C 222 dX8_init_198 rfl (fun c198 => ?_) (fun c198 => ?_)
    · have hV := hV.1 c198
      have hc74 := hV.1
      have hV := hV.2
      have hc75 := hV.1
      have hV := hV.2
      exact ku_vret C hc74 hc75 hV dX8_init_222
    · have hV := hV.2 c198
      refine ku_aload_n C dX8_init_201 rfl rfl ?_
      obtain ⟨hoo76, fs77, o76, heo76, hxo76, hV⟩ := hV
      refine ku_get (ci := 8) C 0 hoo76 heo76 rfl inlX8 (by decide) wd_119 hxo76 dX8_init_202 ?_
      refine ku_iload_n C dX8_init_205 rfl rfl ?_
      refine ku_iconst (v := 1) C dX8_init_206 (by decide) ?_
      obtain ⟨hof78, N79, h80, hef78, hif78, hV⟩ := hV
      refine ku_iast C hof78 hef78 hif78 dX8_init_207 (fun f78 hf78 => ?_)
      have hV := hV f78 hf78
      refine ku_aload_n C dX8_init_208 rfl rfl ?_
      obtain ⟨hoo81, fs82, o81, heo81, hxo81, hV⟩ := hV
      refine ku_get (ci := 8) C 15 hoo81 heo81 rfl inlX8 (by decide) wd_133 hxo81 dX8_init_209 ?_
      refine ku_iload_n C dX8_init_212 rfl rfl ?_
      refine ku_ldc (v := (-2000000)) C wd_139 dX8_init_213 ?_
      obtain ⟨hof83, N84, h85, hef83, hif83, hV⟩ := hV
      refine ku_iast C hof83 hef83 hif83 dX8_init_215 (fun f83 hf83 => ?_)
      have hV := hV f83 hf83
      refine ku_iinc (v := _ + 1) (lv' := [(1, .int _), (0, .ref _)]) C dX8_init_216 rfl rfl (by decide) rfl ?_
      refine ku_goto C 195 dX8_init_219 rfl ?_
      refine ku_pick (lv' := [(0, .ref _), (1, .int _)]) [1, 0] rfl ?_
      exact ih hV
set_option maxHeartbeats 4000000 in
set_option maxRecDepth 100000 in
theorem u_X8_init {l : Launch} {g : GG} {o : Nat} {n : Nat} {f : Nat → va_E} {K : Nat → (Nat → va_E) → Prop} (hV : U_X8_init g o  n f K) : CtU l yX8_init cX8_init 2 1 12 20 862 [.ref (gbs g + o)] g n f K := by
  refine cu_intro RX8 (by decide) rfl (Nat.le_of_ble_eq_true rfl) ?_
  intro p e s mi below meth c C
  unfold U_X8_init at hV
  refine ku_aload_n C dX8_init_0 rfl rfl ?_
  refine ku_obj C wd_118 wd_10 wd_11 (Nat.le_of_ble_eq_true rfl) (Nat.le_of_ble_eq_true rfl) dX8_init_1 ?_
  refine ku_aload_n C dX8_init_4 rfl rfl ?_
  refine ku_bipush (v := 10) C dX8_init_5 (by decide) ?_
  refine ku_newa (a0 := (10, .inl (fun _ => 0))) (ty := .int) C 0 wd_41 rfl (fun _ h => by cases h) rfl (fun _ => rfl) (by decide) (by decide) (by decide) (Nat.le_of_ble_eq_true rfl) (Nat.le_of_ble_eq_true rfl) dX8_init_7 (fun f1 hf1 => ?_)
  have hV := hV f1 hf1
  obtain ⟨hof2, fs3, hef2, hlf2, hV⟩ := hV
  refine ku_putF (ci := 8) (ty := (.array .int)) C 0 tyX8 hof2 hef2 rfl inlX8 tyX8_ok nmX8 (by decide) wd_119 rfl rfl (by decide +kernel) rfl rfl hlf2 dX8_init_9 (fun f2 hf2 => ?_)
  have hV := hV f2 hf2
  refine ku_aload_n C dX8_init_12 rfl rfl ?_
  refine ku_bipush (v := 10) C dX8_init_13 (by decide) ?_
  refine ku_newa (a0 := (10, .inl (fun _ => 0))) (ty := .int) C 0 wd_41 rfl (fun _ h => by cases h) rfl (fun _ => rfl) (by decide) (by decide) (by decide) (Nat.le_of_ble_eq_true rfl) (Nat.le_of_ble_eq_true rfl) dX8_init_15 (fun f4 hf4 => ?_)
  have hV := hV f4 hf4
  obtain ⟨hof5, fs6, hef5, hlf5, hV⟩ := hV
  refine ku_putF (ci := 8) (ty := (.array .int)) C 1 tyX8 hof5 hef5 rfl inlX8 tyX8_ok nmX8 (by decide) wd_120 rfl rfl (by decide +kernel) rfl rfl hlf5 dX8_init_17 (fun f5 hf5 => ?_)
  have hV := hV f5 hf5
  refine ku_aload_n C dX8_init_20 rfl rfl ?_
  refine ku_bipush (v := 10) C dX8_init_21 (by decide) ?_
  refine ku_newa (a0 := (10, .inl (fun _ => 0))) (ty := .int) C 0 wd_41 rfl (fun _ h => by cases h) rfl (fun _ => rfl) (by decide) (by decide) (by decide) (Nat.le_of_ble_eq_true rfl) (Nat.le_of_ble_eq_true rfl) dX8_init_23 (fun f7 hf7 => ?_)
  have hV := hV f7 hf7
  obtain ⟨hof8, fs9, hef8, hlf8, hV⟩ := hV
  refine ku_putF (ci := 8) (ty := (.array .int)) C 3 tyX8 hof8 hef8 rfl inlX8 tyX8_ok nmX8 (by decide) wd_121 rfl rfl (by decide +kernel) rfl rfl hlf8 dX8_init_25 (fun f8 hf8 => ?_)
  have hV := hV f8 hf8
  refine ku_aload_n C dX8_init_28 rfl rfl ?_
  refine ku_bipush (v := 10) C dX8_init_29 (by decide) ?_
  refine ku_newa (a0 := (10, .inl (fun _ => 0))) (ty := .int) C 0 wd_41 rfl (fun _ h => by cases h) rfl (fun _ => rfl) (by decide) (by decide) (by decide) (Nat.le_of_ble_eq_true rfl) (Nat.le_of_ble_eq_true rfl) dX8_init_31 (fun f10 hf10 => ?_)
  have hV := hV f10 hf10
  obtain ⟨hof11, fs12, hef11, hlf11, hV⟩ := hV
  refine ku_putF (ci := 8) (ty := (.array .int)) C 4 tyX8 hof11 hef11 rfl inlX8 tyX8_ok nmX8 (by decide) wd_122 rfl rfl (by decide +kernel) rfl rfl hlf11 dX8_init_33 (fun f11 hf11 => ?_)
  have hV := hV f11 hf11
  refine ku_aload_n C dX8_init_36 rfl rfl ?_
  refine ku_bipush (v := 80) C dX8_init_37 (by decide) ?_
  refine ku_newa (a0 := (80, .inl (fun _ => 0))) (ty := .int) C 0 wd_41 rfl (fun _ h => by cases h) rfl (fun _ => rfl) (by decide) (by decide) (by decide) (Nat.le_of_ble_eq_true rfl) (Nat.le_of_ble_eq_true rfl) dX8_init_39 (fun f13 hf13 => ?_)
  have hV := hV f13 hf13
  obtain ⟨hof14, fs15, hef14, hlf14, hV⟩ := hV
  refine ku_putF (ci := 8) (ty := (.array .int)) C 5 tyX8 hof14 hef14 rfl inlX8 tyX8_ok nmX8 (by decide) wd_123 rfl rfl (by decide +kernel) rfl rfl hlf14 dX8_init_41 (fun f14 hf14 => ?_)
  have hV := hV f14 hf14
  refine ku_aload_n C dX8_init_44 rfl rfl ?_
  refine ku_bipush (v := 80) C dX8_init_45 (by decide) ?_
  refine ku_newa (a0 := (80, .inl (fun _ => 0))) (ty := .int) C 0 wd_41 rfl (fun _ h => by cases h) rfl (fun _ => rfl) (by decide) (by decide) (by decide) (Nat.le_of_ble_eq_true rfl) (Nat.le_of_ble_eq_true rfl) dX8_init_47 (fun f16 hf16 => ?_)
  have hV := hV f16 hf16
  obtain ⟨hof17, fs18, hef17, hlf17, hV⟩ := hV
  refine ku_putF (ci := 8) (ty := (.array .int)) C 6 tyX8 hof17 hef17 rfl inlX8 tyX8_ok nmX8 (by decide) wd_124 rfl rfl (by decide +kernel) rfl rfl hlf17 dX8_init_49 (fun f17 hf17 => ?_)
  have hV := hV f17 hf17
  refine ku_aload_n C dX8_init_52 rfl rfl ?_
  refine ku_bipush (v := 80) C dX8_init_53 (by decide) ?_
  refine ku_newa (a0 := (80, .inl (fun _ => 0))) (ty := .int) C 0 wd_41 rfl (fun _ h => by cases h) rfl (fun _ => rfl) (by decide) (by decide) (by decide) (Nat.le_of_ble_eq_true rfl) (Nat.le_of_ble_eq_true rfl) dX8_init_55 (fun f19 hf19 => ?_)
  have hV := hV f19 hf19
  obtain ⟨hof20, fs21, hef20, hlf20, hV⟩ := hV
  refine ku_putF (ci := 8) (ty := (.array .int)) C 7 tyX8 hof20 hef20 rfl inlX8 tyX8_ok nmX8 (by decide) wd_125 rfl rfl (by decide +kernel) rfl rfl hlf20 dX8_init_57 (fun f20 hf20 => ?_)
  have hV := hV f20 hf20
  refine ku_aload_n C dX8_init_60 rfl rfl ?_
  refine ku_bipush (v := 10) C dX8_init_61 (by decide) ?_
  refine ku_newa (a0 := (10, .inl (fun _ => 0))) (ty := .int) C 0 wd_41 rfl (fun _ h => by cases h) rfl (fun _ => rfl) (by decide) (by decide) (by decide) (Nat.le_of_ble_eq_true rfl) (Nat.le_of_ble_eq_true rfl) dX8_init_63 (fun f22 hf22 => ?_)
  have hV := hV f22 hf22
  obtain ⟨hof23, fs24, hef23, hlf23, hV⟩ := hV
  refine ku_putF (ci := 8) (ty := (.array .int)) C 8 tyX8 hof23 hef23 rfl inlX8 tyX8_ok nmX8 (by decide) wd_126 rfl rfl (by decide +kernel) rfl rfl hlf23 dX8_init_65 (fun f23 hf23 => ?_)
  have hV := hV f23 hf23
  refine ku_aload_n C dX8_init_68 rfl rfl ?_
  refine ku_bipush (v := 10) C dX8_init_69 (by decide) ?_
  refine ku_newa (a0 := (10, .inl (fun _ => 0))) (ty := .int) C 0 wd_41 rfl (fun _ h => by cases h) rfl (fun _ => rfl) (by decide) (by decide) (by decide) (Nat.le_of_ble_eq_true rfl) (Nat.le_of_ble_eq_true rfl) dX8_init_71 (fun f25 hf25 => ?_)
  have hV := hV f25 hf25
  obtain ⟨hof26, fs27, hef26, hlf26, hV⟩ := hV
  refine ku_putF (ci := 8) (ty := (.array .int)) C 9 tyX8 hof26 hef26 rfl inlX8 tyX8_ok nmX8 (by decide) wd_127 rfl rfl (by decide +kernel) rfl rfl hlf26 dX8_init_73 (fun f26 hf26 => ?_)
  have hV := hV f26 hf26
  refine ku_aload_n C dX8_init_76 rfl rfl ?_
  refine ku_bipush (v := 30) C dX8_init_77 (by decide) ?_
  refine ku_newa (a0 := (30, .inl (fun _ => 0))) (ty := .int) C 0 wd_41 rfl (fun _ h => by cases h) rfl (fun _ => rfl) (by decide) (by decide) (by decide) (Nat.le_of_ble_eq_true rfl) (Nat.le_of_ble_eq_true rfl) dX8_init_79 (fun f28 hf28 => ?_)
  have hV := hV f28 hf28
  obtain ⟨hof29, fs30, hef29, hlf29, hV⟩ := hV
  refine ku_putF (ci := 8) (ty := (.array .int)) C 10 tyX8 hof29 hef29 rfl inlX8 tyX8_ok nmX8 (by decide) wd_128 rfl rfl (by decide +kernel) rfl rfl hlf29 dX8_init_81 (fun f29 hf29 => ?_)
  have hV := hV f29 hf29
  refine ku_aload_n C dX8_init_84 rfl rfl ?_
  refine ku_bipush (v := 30) C dX8_init_85 (by decide) ?_
  refine ku_newa (a0 := (30, .inl (fun _ => 0))) (ty := .int) C 0 wd_41 rfl (fun _ h => by cases h) rfl (fun _ => rfl) (by decide) (by decide) (by decide) (Nat.le_of_ble_eq_true rfl) (Nat.le_of_ble_eq_true rfl) dX8_init_87 (fun f31 hf31 => ?_)
  have hV := hV f31 hf31
  obtain ⟨hof32, fs33, hef32, hlf32, hV⟩ := hV
  refine ku_putF (ci := 8) (ty := (.array .int)) C 11 tyX8 hof32 hef32 rfl inlX8 tyX8_ok nmX8 (by decide) wd_129 rfl rfl (by decide +kernel) rfl rfl hlf32 dX8_init_89 (fun f32 hf32 => ?_)
  have hV := hV f32 hf32
  refine ku_aload_n C dX8_init_92 rfl rfl ?_
  refine ku_bipush (v := 30) C dX8_init_93 (by decide) ?_
  refine ku_newa (a0 := (30, .inl (fun _ => 0))) (ty := .int) C 0 wd_41 rfl (fun _ h => by cases h) rfl (fun _ => rfl) (by decide) (by decide) (by decide) (Nat.le_of_ble_eq_true rfl) (Nat.le_of_ble_eq_true rfl) dX8_init_95 (fun f34 hf34 => ?_)
  have hV := hV f34 hf34
  obtain ⟨hof35, fs36, hef35, hlf35, hV⟩ := hV
  refine ku_putF (ci := 8) (ty := (.array .int)) C 12 tyX8 hof35 hef35 rfl inlX8 tyX8_ok nmX8 (by decide) wd_130 rfl rfl (by decide +kernel) rfl rfl hlf35 dX8_init_97 (fun f35 hf35 => ?_)
  have hV := hV f35 hf35
  refine ku_aload_n C dX8_init_100 rfl rfl ?_
  refine ku_bipush (v := 30) C dX8_init_101 (by decide) ?_
  refine ku_newa (a0 := (30, .inl (fun _ => 0))) (ty := .int) C 0 wd_41 rfl (fun _ h => by cases h) rfl (fun _ => rfl) (by decide) (by decide) (by decide) (Nat.le_of_ble_eq_true rfl) (Nat.le_of_ble_eq_true rfl) dX8_init_103 (fun f37 hf37 => ?_)
  have hV := hV f37 hf37
  obtain ⟨hof38, fs39, hef38, hlf38, hV⟩ := hV
  refine ku_putF (ci := 8) (ty := (.array .int)) C 13 tyX8 hof38 hef38 rfl inlX8 tyX8_ok nmX8 (by decide) wd_131 rfl rfl (by decide +kernel) rfl rfl hlf38 dX8_init_105 (fun f38 hf38 => ?_)
  have hV := hV f38 hf38
  refine ku_aload_n C dX8_init_108 rfl rfl ?_
  refine ku_bipush (v := 10) C dX8_init_109 (by decide) ?_
  refine ku_newa (a0 := (10, .inl (fun _ => 0))) (ty := .int) C 0 wd_41 rfl (fun _ h => by cases h) rfl (fun _ => rfl) (by decide) (by decide) (by decide) (Nat.le_of_ble_eq_true rfl) (Nat.le_of_ble_eq_true rfl) dX8_init_111 (fun f40 hf40 => ?_)
  have hV := hV f40 hf40
  obtain ⟨hof41, fs42, hef41, hlf41, hV⟩ := hV
  refine ku_putF (ci := 8) (ty := (.array .int)) C 14 tyX8 hof41 hef41 rfl inlX8 tyX8_ok nmX8 (by decide) wd_132 rfl rfl (by decide +kernel) rfl rfl hlf41 dX8_init_113 (fun f41 hf41 => ?_)
  have hV := hV f41 hf41
  refine ku_aload_n C dX8_init_116 rfl rfl ?_
  refine ku_bipush (v := 10) C dX8_init_117 (by decide) ?_
  refine ku_newa (a0 := (10, .inl (fun _ => 0))) (ty := .int) C 0 wd_41 rfl (fun _ h => by cases h) rfl (fun _ => rfl) (by decide) (by decide) (by decide) (Nat.le_of_ble_eq_true rfl) (Nat.le_of_ble_eq_true rfl) dX8_init_119 (fun f43 hf43 => ?_)
  have hV := hV f43 hf43
  obtain ⟨hof44, fs45, hef44, hlf44, hV⟩ := hV
  refine ku_putF (ci := 8) (ty := (.array .int)) C 15 tyX8 hof44 hef44 rfl inlX8 tyX8_ok nmX8 (by decide) wd_133 rfl rfl (by decide +kernel) rfl rfl hlf44 dX8_init_121 (fun f44 hf44 => ?_)
  have hV := hV f44 hf44
  refine ku_aload_n C dX8_init_124 rfl rfl ?_
  refine ku_bipush (v := 10) C dX8_init_125 (by decide) ?_
  refine ku_newa (a0 := (10, .inl (fun _ => 0))) (ty := .boolean) C 1 wd_39 rfl (fun _ h => by cases h) rfl (fun _ => rfl) (by decide) (by decide) (by decide) (Nat.le_of_ble_eq_true rfl) (Nat.le_of_ble_eq_true rfl) dX8_init_127 (fun f46 hf46 => ?_)
  have hV := hV f46 hf46
  obtain ⟨hof47, fs48, hef47, hlf47, hV⟩ := hV
  refine ku_putF (ci := 8) (ty := (.array .boolean)) C 16 tyX8 hof47 hef47 rfl inlX8 tyX8_ok nmX8 (by decide) wd_134 rfl rfl (by decide +kernel) rfl rfl hlf47 dX8_init_129 (fun f47 hf47 => ?_)
  have hV := hV f47 hf47
  refine ku_aload_n C dX8_init_132 rfl rfl ?_
  refine ku_sipush (v := 400) C dX8_init_133 (by decide) ?_
  refine ku_newa (a0 := (400, .inl (fun _ => 0))) (ty := .int) C 0 wd_41 rfl (fun _ h => by cases h) rfl (fun _ => rfl) (by decide) (by decide) (by decide) (Nat.le_of_ble_eq_true rfl) (Nat.le_of_ble_eq_true rfl) dX8_init_136 (fun f49 hf49 => ?_)
  have hV := hV f49 hf49
  obtain ⟨hof50, fs51, hef50, hlf50, hV⟩ := hV
  refine ku_putF (ci := 8) (ty := (.array .int)) C 17 tyX8 hof50 hef50 rfl inlX8 tyX8_ok nmX8 (by decide) wd_135 rfl rfl (by decide +kernel) rfl rfl hlf50 dX8_init_138 (fun f50 hf50 => ?_)
  have hV := hV f50 hf50
  refine ku_aload_n C dX8_init_141 rfl rfl ?_
  refine ku_iconst (v := 4) C dX8_init_142 (by decide) ?_
  refine ku_newa (a0 := (4, .inl (fun _ => 0))) (ty := .boolean) C 1 wd_39 rfl (fun _ h => by cases h) rfl (fun _ => rfl) (by decide) (by decide) (by decide) (Nat.le_of_ble_eq_true rfl) (Nat.le_of_ble_eq_true rfl) dX8_init_143 (fun f52 hf52 => ?_)
  have hV := hV f52 hf52
  obtain ⟨hof53, fs54, hef53, hlf53, hV⟩ := hV
  refine ku_putF (ci := 8) (ty := (.array .boolean)) C 20 tyX8 hof53 hef53 rfl inlX8 tyX8_ok nmX8 (by decide) wd_136 rfl rfl (by decide +kernel) rfl rfl hlf53 dX8_init_145 (fun f53 hf53 => ?_)
  have hV := hV f53 hf53
  refine ku_aload_n C dX8_init_148 rfl rfl ?_
  refine ku_iconst (v := 4) C dX8_init_149 (by decide) ?_
  refine ku_newa (a0 := (4, .inl (fun _ => 0))) (ty := .int) C 0 wd_41 rfl (fun _ h => by cases h) rfl (fun _ => rfl) (by decide) (by decide) (by decide) (Nat.le_of_ble_eq_true rfl) (Nat.le_of_ble_eq_true rfl) dX8_init_150 (fun f55 hf55 => ?_)
  have hV := hV f55 hf55
  obtain ⟨hof56, fs57, hef56, hlf56, hV⟩ := hV
  refine ku_putF (ci := 8) (ty := (.array .int)) C 21 tyX8 hof56 hef56 rfl inlX8 tyX8_ok nmX8 (by decide) wd_137 rfl rfl (by decide +kernel) rfl rfl hlf56 dX8_init_152 (fun f56 hf56 => ?_)
  have hV := hV f56 hf56
  refine ku_aload_n C dX8_init_155 rfl rfl ?_
  refine ku_iconst (v := 4) C dX8_init_156 (by decide) ?_
  refine ku_newa (a0 := (4, .inl (fun _ => 0))) (ty := .int) C 0 wd_41 rfl (fun _ h => by cases h) rfl (fun _ => rfl) (by decide) (by decide) (by decide) (Nat.le_of_ble_eq_true rfl) (Nat.le_of_ble_eq_true rfl) dX8_init_157 (fun f58 hf58 => ?_)
  have hV := hV f58 hf58
  obtain ⟨hof59, fs60, hef59, hlf59, hV⟩ := hV
  refine ku_putF (ci := 8) (ty := (.array .int)) C 22 tyX8 hof59 hef59 rfl inlX8 tyX8_ok nmX8 (by decide) wd_138 rfl rfl (by decide +kernel) rfl rfl hlf59 dX8_init_159 (fun f59 hf59 => ?_)
  have hV := hV f59 hf59
  refine ku_aload_n C dX8_init_162 rfl rfl ?_
  refine ku_ldc (v := (-2000000)) C wd_139 dX8_init_163 ?_
  obtain ⟨hof61, fs62, hef61, hlf61, hV⟩ := hV
  refine ku_put (ci := 8) (ty := .int) C 25 tyX8 hof61 hef61 rfl inlX8 tyX8_ok nmX8 (by decide) wd_140 rfl (by decide +kernel) rfl rfl hlf61 dX8_init_165 (fun f61 hf61 => ?_)
  have hV := hV f61 hf61
  refine ku_aload_n C dX8_init_168 rfl rfl ?_
  refine ku_iconst (v := 3) C dX8_init_169 (by decide) ?_
  obtain ⟨hof63, fs64, hef63, hlf63, hV⟩ := hV
  refine ku_put (ci := 8) (ty := .int) C 26 tyX8 hof63 hef63 rfl inlX8 tyX8_ok nmX8 (by decide) wd_141 rfl (by decide +kernel) rfl rfl hlf63 dX8_init_170 (fun f63 hf63 => ?_)
  have hV := hV f63 hf63
  refine ku_aload_n C dX8_init_173 rfl rfl ?_
  refine ku_sipush (v := 1000) C dX8_init_174 (by decide) ?_
  obtain ⟨hof65, fs66, hef65, hlf65, hV⟩ := hV
  refine ku_put (ci := 8) (ty := .int) C 27 tyX8 hof65 hef65 rfl inlX8 tyX8_ok nmX8 (by decide) wd_142 rfl (by decide +kernel) rfl rfl hlf65 dX8_init_177 (fun f65 hf65 => ?_)
  have hV := hV f65 hf65
  refine ku_aload_n C dX8_init_180 rfl rfl ?_
  refine ku_ldc (v := (-2000000)) C wd_139 dX8_init_181 ?_
  obtain ⟨hof67, fs68, hef67, hlf67, hV⟩ := hV
  refine ku_put (ci := 8) (ty := .int) C 29 tyX8 hof67 hef67 rfl inlX8 tyX8_ok nmX8 (by decide) wd_143 rfl (by decide +kernel) rfl rfl hlf67 dX8_init_183 (fun f67 hf67 => ?_)
  have hV := hV f67 hf67
  refine ku_aload_n C dX8_init_186 rfl rfl ?_
  obtain ⟨hoo69, fs70, o69, heo69, hxo69, hV⟩ := hV
  refine ku_get (ci := 8) C 20 hoo69 heo69 rfl inlX8 (by decide) wd_136 hxo69 dX8_init_187 ?_
  refine ku_iconst (v := 0) C dX8_init_190 (by decide) ?_
  refine ku_iconst (v := 1) C dX8_init_191 (by decide) ?_
  obtain ⟨hof71, N72, h73, hef71, hif71, hV⟩ := hV
  refine ku_zast C hof71 hef71 hif71 rfl dX8_init_192 (fun f71 hf71 => ?_)
  have hV := hV f71 hf71
  refine ku_iconst (v := 0) C dX8_init_193 (by decide) ?_
  refine ku_istore_n (lv' := [(1, .int _), (0, .ref _)]) C dX8_init_194 rfl (by decide) rfl ?_
  obtain ⟨k, hV⟩ := hV
  refine ku_pick (lv' := [(0, .ref _), (1, .int _)]) [1, 0] rfl ?_
  exact u_X8_init_195 C k hV
