theorem pu_X2_init (g : GG) {o n : Nat} {f : Nat → va_E} {K : Nat → (Nat → va_E) → Prop} (ho : o < n) (e0 : f o = .inr (2, [.null, .null, .null])) (hK : ∀ F : Nat → va_E, F o = .inr (2, [.ref (gbs g + n), .ref (gbs g + (n + 1)), .ref (gbs g + (n + 2))]) → F n = aI (gcZ g) 10 (fun _ => 0) → F (n + 1) = aI (gcI g) 10 (fun _ => 0) → F (n + 2) = aI (gcI g) 10 (fun _ => 0) → (∀ j, j ≠ o → j < n → F j = f j) → K (n + 3) F) : U_X2_init g o  n f K := by
  unfold U_X2_init
  intro f1 hf1
  have ef1 : f1 o = .inr (2, [.null, .null, .null]) := by rw [hf1, va_up_ne _ _ (by omega)]; exact e0
  refine ⟨by omega, _, ef1, Nat.le_of_ble_eq_true rfl, ?_⟩
  intro f2 hf2
  have ef2 : f2 o = .inr (2, [.ref (gbs g + n), .null, .null]) := by rw [hf2, va_up_self]; rfl
  intro f3 hf3
  have ef3 : f3 o = .inr (2, [.ref (gbs g + n), .null, .null]) := by rw [hf3, va_up_ne _ _ (by omega)]; exact ef2
  refine ⟨by omega, _, ef3, Nat.le_of_ble_eq_true rfl, ?_⟩
  intro f4 hf4
  have ef4 : f4 o = .inr (2, [.ref (gbs g + n), .ref (gbs g + (n + 1)), .null]) := by rw [hf4, va_up_self]; rfl
  intro f5 hf5
  have ef5 : f5 o = .inr (2, [.ref (gbs g + n), .ref (gbs g + (n + 1)), .null]) := by rw [hf5, va_up_ne _ _ (by omega)]; exact ef4
  refine ⟨by omega, _, ef5, Nat.le_of_ble_eq_true rfl, ?_⟩
  intro f6 hf6
  have ef6 : f6 o = .inr (2, [.ref (gbs g + n), .ref (gbs g + (n + 1)), .ref (gbs g + (n + 2))]) := by rw [hf6, va_up_self]; rfl
  exact hK _ ef6 (by rw [hf6, va_up_ne _ _ (by omega), hf5, va_up_ne _ _ (by omega), hf4, va_up_ne _ _ (by omega), hf3, va_up_ne _ _ (by omega), hf2, va_up_ne _ _ (by omega), hf1, va_up_self]) (by rw [hf6, va_up_ne _ _ (by omega), hf5, va_up_ne _ _ (by omega), hf4, va_up_ne _ _ (by omega), hf3, va_up_self]) (by rw [hf6, va_up_ne _ _ (by omega), hf5, va_up_self]) (fun j hj1 hj2 => by rw [hf6, va_up_ne _ _ (by omega), hf5, va_up_ne _ _ (by omega), hf4, va_up_ne _ _ (by omega), hf3, va_up_ne _ _ (by omega), hf2, va_up_ne _ _ (by omega), hf1, va_up_ne _ _ (by omega)])
theorem pu_X3_init (g : GG) {o n : Nat} {f : Nat → va_E} {K : Nat → (Nat → va_E) → Prop} (ho : o < n) (e0 : f o = .inr (3, [.null, .int 0, .int 0])) (hK : ∀ F : Nat → va_E, F o = .inr (3, [.ref (gbs g + n), .int 0, .int 0]) → F n = aR (gcS g) 10 (fun _ => none) → (∀ j, j ≠ o → j < n → F j = f j) → K (n + 1) F) : U_X3_init g o  n f K := by
  unfold U_X3_init
  intro f1 hf1
  have ef1 : f1 o = .inr (3, [.null, .int 0, .int 0]) := by rw [hf1, va_up_ne _ _ (by omega)]; exact e0
  refine ⟨by omega, _, ef1, Nat.le_of_ble_eq_true rfl, ?_⟩
  intro f2 hf2
  have ef2 : f2 o = .inr (3, [.ref (gbs g + n), .int 0, .int 0]) := by rw [hf2, va_up_self]; rfl
  refine ⟨by omega, _, ef2, Nat.le_of_ble_eq_true rfl, ?_⟩
  intro f3 hf3
  have ef3 : f3 o = .inr (3, [.ref (gbs g + n), .int 0, .int 0]) := by rw [hf3, va_up_self]; rfl
  refine ⟨by omega, _, ef3, Nat.le_of_ble_eq_true rfl, ?_⟩
  intro f4 hf4
  have ef4 : f4 o = .inr (3, [.ref (gbs g + n), .int 0, .int 0]) := by rw [hf4, va_up_self]; rfl
  exact hK _ ef4 (by rw [hf4, va_up_ne _ _ (by omega), hf3, va_up_ne _ _ (by omega), hf2, va_up_ne _ _ (by omega), hf1, va_up_self]) (fun j hj1 hj2 => by rw [hf4, va_up_ne _ _ (by omega), hf3, va_up_ne _ _ (by omega), hf2, va_up_ne _ _ (by omega), hf1, va_up_ne _ _ (by omega)])
theorem pu_X5_init (g : GG) {o n : Nat} {f : Nat → va_E} {K : Nat → (Nat → va_E) → Prop} (ho : o < n) (e0 : f o = .inr (5, [.int 0, .int 0, .int 0, .int 0, .int 0, .int 0])) (hK : ∀ F : Nat → va_E, F o = .inr (5, [.int 0, .int (-2000000), .int 0, .int 0, .int 0, .int 0]) → (∀ j, j ≠ o → j < n → F j = f j) → K n F) : U_X5_init g o  n f K := by
  unfold U_X5_init
  refine ⟨by omega, _, e0, Nat.le_of_ble_eq_true rfl, ?_⟩
  intro f1 hf1
  have ef1 : f1 o = .inr (5, [.int 0, .int 0, .int 0, .int 0, .int 0, .int 0]) := by rw [hf1, va_up_self]; rfl
  refine ⟨by omega, _, ef1, Nat.le_of_ble_eq_true rfl, ?_⟩
  intro f2 hf2
  have ef2 : f2 o = .inr (5, [.int 0, .int (-2000000), .int 0, .int 0, .int 0, .int 0]) := by rw [hf2, va_up_self]; rfl
  refine ⟨by omega, _, ef2, Nat.le_of_ble_eq_true rfl, ?_⟩
  intro f3 hf3
  have ef3 : f3 o = .inr (5, [.int 0, .int (-2000000), .int 0, .int 0, .int 0, .int 0]) := by rw [hf3, va_up_self]; rfl
  refine ⟨by omega, _, ef3, Nat.le_of_ble_eq_true rfl, ?_⟩
  intro f4 hf4
  have ef4 : f4 o = .inr (5, [.int 0, .int (-2000000), .int 0, .int 0, .int 0, .int 0]) := by rw [hf4, va_up_self]; rfl
  refine ⟨by omega, _, ef4, Nat.le_of_ble_eq_true rfl, ?_⟩
  intro f5 hf5
  have ef5 : f5 o = .inr (5, [.int 0, .int (-2000000), .int 0, .int 0, .int 0, .int 0]) := by rw [hf5, va_up_self]; rfl
  refine ⟨by omega, _, ef5, Nat.le_of_ble_eq_true rfl, ?_⟩
  intro f6 hf6
  have ef6 : f6 o = .inr (5, [.int 0, .int (-2000000), .int 0, .int 0, .int 0, .int 0]) := by rw [hf6, va_up_self]; rfl
  exact hK _ ef6  (fun j hj1 hj2 => by rw [hf6, va_up_ne _ _ (by omega), hf5, va_up_ne _ _ (by omega), hf4, va_up_ne _ _ (by omega), hf3, va_up_ne _ _ (by omega), hf2, va_up_ne _ _ (by omega), hf1, va_up_ne _ _ (by omega)])
theorem pu_X4_init (g : GG) {o n : Nat} {f : Nat → va_E} {K : Nat → (Nat → va_E) → Prop} (ho : o < n) (e0 : f o = .inr (4, [.null, .null, .null, .int 0, .int 0, .int 0, .int 0, .int 0, .int 0])) (hK : ∀ F : Nat → va_E, F o = .inr (4, [.ref (gbs g + n), .ref (gbs g + (n + 1)), .ref (gbs g + (n + 2)), .int 0, .int 0, .int (-2000000), .int 0, .int 0, .int 0]) → F n = aI (gcI g) 8 (fun _ => 0) → F (n + 1) = aI (gcI g) 8 (fun _ => 0) → F (n + 2) = aI (gcI g) 8 (fun _ => 0) → (∀ j, j ≠ o → j < n → F j = f j) → K (n + 3) F) : U_X4_init g o  n f K := by
  unfold U_X4_init
  intro f1 hf1
  have ef1 : f1 o = .inr (4, [.null, .null, .null, .int 0, .int 0, .int 0, .int 0, .int 0, .int 0]) := by rw [hf1, va_up_ne _ _ (by omega)]; exact e0
  refine ⟨by omega, _, ef1, Nat.le_of_ble_eq_true rfl, ?_⟩
  intro f2 hf2
  have ef2 : f2 o = .inr (4, [.ref (gbs g + n), .null, .null, .int 0, .int 0, .int 0, .int 0, .int 0, .int 0]) := by rw [hf2, va_up_self]; rfl
  intro f3 hf3
  have ef3 : f3 o = .inr (4, [.ref (gbs g + n), .null, .null, .int 0, .int 0, .int 0, .int 0, .int 0, .int 0]) := by rw [hf3, va_up_ne _ _ (by omega)]; exact ef2
  refine ⟨by omega, _, ef3, Nat.le_of_ble_eq_true rfl, ?_⟩
  intro f4 hf4
  have ef4 : f4 o = .inr (4, [.ref (gbs g + n), .ref (gbs g + (n + 1)), .null, .int 0, .int 0, .int 0, .int 0, .int 0, .int 0]) := by rw [hf4, va_up_self]; rfl
  intro f5 hf5
  have ef5 : f5 o = .inr (4, [.ref (gbs g + n), .ref (gbs g + (n + 1)), .null, .int 0, .int 0, .int 0, .int 0, .int 0, .int 0]) := by rw [hf5, va_up_ne _ _ (by omega)]; exact ef4
  refine ⟨by omega, _, ef5, Nat.le_of_ble_eq_true rfl, ?_⟩
  intro f6 hf6
  have ef6 : f6 o = .inr (4, [.ref (gbs g + n), .ref (gbs g + (n + 1)), .ref (gbs g + (n + 2)), .int 0, .int 0, .int 0, .int 0, .int 0, .int 0]) := by rw [hf6, va_up_self]; rfl
  refine ⟨by omega, _, ef6, Nat.le_of_ble_eq_true rfl, ?_⟩
  intro f7 hf7
  have ef7 : f7 o = .inr (4, [.ref (gbs g + n), .ref (gbs g + (n + 1)), .ref (gbs g + (n + 2)), .int 0, .int 0, .int 0, .int 0, .int 0, .int 0]) := by rw [hf7, va_up_self]; rfl
  refine ⟨by omega, _, ef7, Nat.le_of_ble_eq_true rfl, ?_⟩
  intro f8 hf8
  have ef8 : f8 o = .inr (4, [.ref (gbs g + n), .ref (gbs g + (n + 1)), .ref (gbs g + (n + 2)), .int 0, .int 0, .int 0, .int 0, .int 0, .int 0]) := by rw [hf8, va_up_self]; rfl
  refine ⟨by omega, _, ef8, Nat.le_of_ble_eq_true rfl, ?_⟩
  intro f9 hf9
  have ef9 : f9 o = .inr (4, [.ref (gbs g + n), .ref (gbs g + (n + 1)), .ref (gbs g + (n + 2)), .int 0, .int 0, .int (-2000000), .int 0, .int 0, .int 0]) := by rw [hf9, va_up_self]; rfl
  refine ⟨by omega, _, ef9, Nat.le_of_ble_eq_true rfl, ?_⟩
  intro f10 hf10
  have ef10 : f10 o = .inr (4, [.ref (gbs g + n), .ref (gbs g + (n + 1)), .ref (gbs g + (n + 2)), .int 0, .int 0, .int (-2000000), .int 0, .int 0, .int 0]) := by rw [hf10, va_up_self]; rfl
  refine ⟨by omega, _, ef10, Nat.le_of_ble_eq_true rfl, ?_⟩
  intro f11 hf11
  have ef11 : f11 o = .inr (4, [.ref (gbs g + n), .ref (gbs g + (n + 1)), .ref (gbs g + (n + 2)), .int 0, .int 0, .int (-2000000), .int 0, .int 0, .int 0]) := by rw [hf11, va_up_self]; rfl
  refine ⟨by omega, _, ef11, Nat.le_of_ble_eq_true rfl, ?_⟩
  intro f12 hf12
  have ef12 : f12 o = .inr (4, [.ref (gbs g + n), .ref (gbs g + (n + 1)), .ref (gbs g + (n + 2)), .int 0, .int 0, .int (-2000000), .int 0, .int 0, .int 0]) := by rw [hf12, va_up_self]; rfl
  exact hK _ ef12 (by rw [hf12, va_up_ne _ _ (by omega), hf11, va_up_ne _ _ (by omega), hf10, va_up_ne _ _ (by omega), hf9, va_up_ne _ _ (by omega), hf8, va_up_ne _ _ (by omega), hf7, va_up_ne _ _ (by omega), hf6, va_up_ne _ _ (by omega), hf5, va_up_ne _ _ (by omega), hf4, va_up_ne _ _ (by omega), hf3, va_up_ne _ _ (by omega), hf2, va_up_ne _ _ (by omega), hf1, va_up_self]) (by rw [hf12, va_up_ne _ _ (by omega), hf11, va_up_ne _ _ (by omega), hf10, va_up_ne _ _ (by omega), hf9, va_up_ne _ _ (by omega), hf8, va_up_ne _ _ (by omega), hf7, va_up_ne _ _ (by omega), hf6, va_up_ne _ _ (by omega), hf5, va_up_ne _ _ (by omega), hf4, va_up_ne _ _ (by omega), hf3, va_up_self]) (by rw [hf12, va_up_ne _ _ (by omega), hf11, va_up_ne _ _ (by omega), hf10, va_up_ne _ _ (by omega), hf9, va_up_ne _ _ (by omega), hf8, va_up_ne _ _ (by omega), hf7, va_up_ne _ _ (by omega), hf6, va_up_ne _ _ (by omega), hf5, va_up_self]) (fun j hj1 hj2 => by rw [hf12, va_up_ne _ _ (by omega), hf11, va_up_ne _ _ (by omega), hf10, va_up_ne _ _ (by omega), hf9, va_up_ne _ _ (by omega), hf8, va_up_ne _ _ (by omega), hf7, va_up_ne _ _ (by omega), hf6, va_up_ne _ _ (by omega), hf5, va_up_ne _ _ (by omega), hf4, va_up_ne _ _ (by omega), hf3, va_up_ne _ _ (by omega), hf2, va_up_ne _ _ (by omega), hf1, va_up_ne _ _ (by omega)])
theorem pu_X0_init (g : GG) {o n : Nat} {f : Nat → va_E} {K : Nat → (Nat → va_E) → Prop} (ho : o < n) (e0 : f o = .inr (0, [.null, .null, .int 0, .null, .null, .null])) (hK : ∀ F : Nat → va_E, F o = .inr (0, [.ref (gbs g + n), .ref (gbs g + (n + 1)), .int 0, .ref (gbs g + (n + 2)), .ref (gbs g + (n + 3)), .ref (gbs g + (n + 4))]) → F n = aI (gcI g) 3 (fun _ => 0) → F (n + 1) = aI (gcI g) 3 (fun _ => 0) → F (n + 2) = aI (gcZ g) 3 (fun _ => 0) → F (n + 3) = aI (gcI g) 3 (fun _ => 0) → F (n + 4) = aI (gcI g) 3 (fun _ => 0) → (∀ j, j ≠ o → j < n → F j = f j) → K (n + 5) F) : U_X0_init g o  n f K := by
  unfold U_X0_init
  intro f1 hf1
  have ef1 : f1 o = .inr (0, [.null, .null, .int 0, .null, .null, .null]) := by rw [hf1, va_up_ne _ _ (by omega)]; exact e0
  refine ⟨by omega, _, ef1, Nat.le_of_ble_eq_true rfl, ?_⟩
  intro f2 hf2
  have ef2 : f2 o = .inr (0, [.ref (gbs g + n), .null, .int 0, .null, .null, .null]) := by rw [hf2, va_up_self]; rfl
  intro f3 hf3
  have ef3 : f3 o = .inr (0, [.ref (gbs g + n), .null, .int 0, .null, .null, .null]) := by rw [hf3, va_up_ne _ _ (by omega)]; exact ef2
  refine ⟨by omega, _, ef3, Nat.le_of_ble_eq_true rfl, ?_⟩
  intro f4 hf4
  have ef4 : f4 o = .inr (0, [.ref (gbs g + n), .ref (gbs g + (n + 1)), .int 0, .null, .null, .null]) := by rw [hf4, va_up_self]; rfl
  refine ⟨by omega, _, ef4, Nat.le_of_ble_eq_true rfl, ?_⟩
  intro f5 hf5
  have ef5 : f5 o = .inr (0, [.ref (gbs g + n), .ref (gbs g + (n + 1)), .int 0, .null, .null, .null]) := by rw [hf5, va_up_self]; rfl
  intro f6 hf6
  have ef6 : f6 o = .inr (0, [.ref (gbs g + n), .ref (gbs g + (n + 1)), .int 0, .null, .null, .null]) := by rw [hf6, va_up_ne _ _ (by omega)]; exact ef5
  refine ⟨by omega, _, ef6, Nat.le_of_ble_eq_true rfl, ?_⟩
  intro f7 hf7
  have ef7 : f7 o = .inr (0, [.ref (gbs g + n), .ref (gbs g + (n + 1)), .int 0, .ref (gbs g + (n + 2)), .null, .null]) := by rw [hf7, va_up_self]; rfl
  intro f8 hf8
  have ef8 : f8 o = .inr (0, [.ref (gbs g + n), .ref (gbs g + (n + 1)), .int 0, .ref (gbs g + (n + 2)), .null, .null]) := by rw [hf8, va_up_ne _ _ (by omega)]; exact ef7
  refine ⟨by omega, _, ef8, Nat.le_of_ble_eq_true rfl, ?_⟩
  intro f9 hf9
  have ef9 : f9 o = .inr (0, [.ref (gbs g + n), .ref (gbs g + (n + 1)), .int 0, .ref (gbs g + (n + 2)), .ref (gbs g + (n + 3)), .null]) := by rw [hf9, va_up_self]; rfl
  intro f10 hf10
  have ef10 : f10 o = .inr (0, [.ref (gbs g + n), .ref (gbs g + (n + 1)), .int 0, .ref (gbs g + (n + 2)), .ref (gbs g + (n + 3)), .null]) := by rw [hf10, va_up_ne _ _ (by omega)]; exact ef9
  refine ⟨by omega, _, ef10, Nat.le_of_ble_eq_true rfl, ?_⟩
  intro f11 hf11
  have ef11 : f11 o = .inr (0, [.ref (gbs g + n), .ref (gbs g + (n + 1)), .int 0, .ref (gbs g + (n + 2)), .ref (gbs g + (n + 3)), .ref (gbs g + (n + 4))]) := by rw [hf11, va_up_self]; rfl
  exact hK _ ef11 (by rw [hf11, va_up_ne _ _ (by omega), hf10, va_up_ne _ _ (by omega), hf9, va_up_ne _ _ (by omega), hf8, va_up_ne _ _ (by omega), hf7, va_up_ne _ _ (by omega), hf6, va_up_ne _ _ (by omega), hf5, va_up_ne _ _ (by omega), hf4, va_up_ne _ _ (by omega), hf3, va_up_ne _ _ (by omega), hf2, va_up_ne _ _ (by omega), hf1, va_up_self]) (by rw [hf11, va_up_ne _ _ (by omega), hf10, va_up_ne _ _ (by omega), hf9, va_up_ne _ _ (by omega), hf8, va_up_ne _ _ (by omega), hf7, va_up_ne _ _ (by omega), hf6, va_up_ne _ _ (by omega), hf5, va_up_ne _ _ (by omega), hf4, va_up_ne _ _ (by omega), hf3, va_up_self]) (by rw [hf11, va_up_ne _ _ (by omega), hf10, va_up_ne _ _ (by omega), hf9, va_up_ne _ _ (by omega), hf8, va_up_ne _ _ (by omega), hf7, va_up_ne _ _ (by omega), hf6, va_up_self]) (by rw [hf11, va_up_ne _ _ (by omega), hf10, va_up_ne _ _ (by omega), hf9, va_up_ne _ _ (by omega), hf8, va_up_self]) (by rw [hf11, va_up_ne _ _ (by omega), hf10, va_up_self]) (fun j hj1 hj2 => by rw [hf11, va_up_ne _ _ (by omega), hf10, va_up_ne _ _ (by omega), hf9, va_up_ne _ _ (by omega), hf8, va_up_ne _ _ (by omega), hf7, va_up_ne _ _ (by omega), hf6, va_up_ne _ _ (by omega), hf5, va_up_ne _ _ (by omega), hf4, va_up_ne _ _ (by omega), hf3, va_up_ne _ _ (by omega), hf2, va_up_ne _ _ (by omega), hf1, va_up_ne _ _ (by omega)])
theorem pu_X6_init (g : GG) {o n : Nat} {x1 : Int32} {f : Nat → va_E} {K : Nat → (Nat → va_E) → Prop} (ho : o < n) (e0 : f o = .inr (6, [.int 0, .null, .int 0, .int 0, .null, .int 0])) (hK : ∀ F : Nat → va_E, F o = .inr (6, [.int x1, .ref (gbs g + n), .int 0, .int 0, .null, .int 0]) → F n = .inr (0, [.ref (gbs g + (n + 1)), .ref (gbs g + (n + 2)), .int 0, .ref (gbs g + (n + 3)), .ref (gbs g + (n + 4)), .ref (gbs g + (n + 5))]) → F (n + 1) = aI (gcI g) 3 (fun _ => 0) → F (n + 2) = aI (gcI g) 3 (fun _ => 0) → F (n + 3) = aI (gcZ g) 3 (fun _ => 0) → F (n + 4) = aI (gcI g) 3 (fun _ => 0) → F (n + 5) = aI (gcI g) 3 (fun _ => 0) → (∀ j, j ≠ o → j < n → F j = f j) → K (n + 6) F) : U_X6_init g o x1 n f K := by
  unfold U_X6_init
  intro f1 hf1
  have ef1 : f1 o = .inr (6, [.int 0, .null, .int 0, .int 0, .null, .int 0]) := by rw [hf1, va_up_ne _ _ (by omega)]; exact e0
  refine pu_X0_init g (o := n) (n := (n + 1)) (by omega) (by rw [hf1, va_up_self]) (fun f2 qf2_0 qf2_1 qf2_2 qf2_3 qf2_4 qf2_5 qf2_r => ?_)
  have ef2 : f2 o = .inr (6, [.int 0, .null, .int 0, .int 0, .null, .int 0]) := by rw [qf2_r o (by omega) (by omega)]; exact ef1
  refine ⟨by omega, _, ef2, Nat.le_of_ble_eq_true rfl, ?_⟩
  intro f3 hf3
  have ef3 : f3 o = .inr (6, [.int 0, .ref (gbs g + n), .int 0, .int 0, .null, .int 0]) := by rw [hf3, va_up_self]; rfl
  refine ⟨by omega, _, ef3, Nat.le_of_ble_eq_true rfl, ?_⟩
  intro f4 hf4
  have ef4 : f4 o = .inr (6, [.int 0, .ref (gbs g + n), .int 0, .int 0, .null, .int 0]) := by rw [hf4, va_up_self]; rfl
  refine ⟨by omega, _, ef4, Nat.le_of_ble_eq_true rfl, ?_⟩
  intro f5 hf5
  have ef5 : f5 o = .inr (6, [.int 0, .ref (gbs g + n), .int 0, .int 0, .null, .int 0]) := by rw [hf5, va_up_self]; rfl
  refine ⟨by omega, _, ef5, Nat.le_of_ble_eq_true rfl, ?_⟩
  intro f6 hf6
  have ef6 : f6 o = .inr (6, [.int 0, .ref (gbs g + n), .int 0, .int 0, .null, .int 0]) := by rw [hf6, va_up_self]; rfl
  refine ⟨by omega, _, ef6, Nat.le_of_ble_eq_true rfl, ?_⟩
  intro f7 hf7
  have ef7 : f7 o = .inr (6, [.int 0, .ref (gbs g + n), .int 0, .int 0, .null, .int 0]) := by rw [hf7, va_up_self]; rfl
  refine ⟨by omega, _, ef7, Nat.le_of_ble_eq_true rfl, ?_⟩
  intro f8 hf8
  have ef8 : f8 o = .inr (6, [.int x1, .ref (gbs g + n), .int 0, .int 0, .null, .int 0]) := by rw [hf8, va_up_self]; rfl
  exact hK _ ef8 (by rw [hf8, va_up_ne _ _ (by omega), hf7, va_up_ne _ _ (by omega), hf6, va_up_ne _ _ (by omega), hf5, va_up_ne _ _ (by omega), hf4, va_up_ne _ _ (by omega), hf3, va_up_ne _ _ (by omega), qf2_0]) (by rw [hf8, va_up_ne _ _ (by omega), hf7, va_up_ne _ _ (by omega), hf6, va_up_ne _ _ (by omega), hf5, va_up_ne _ _ (by omega), hf4, va_up_ne _ _ (by omega), hf3, va_up_ne _ _ (by omega), qf2_1]) (by rw [hf8, va_up_ne _ _ (by omega), hf7, va_up_ne _ _ (by omega), hf6, va_up_ne _ _ (by omega), hf5, va_up_ne _ _ (by omega), hf4, va_up_ne _ _ (by omega), hf3, va_up_ne _ _ (by omega), qf2_2]) (by rw [hf8, va_up_ne _ _ (by omega), hf7, va_up_ne _ _ (by omega), hf6, va_up_ne _ _ (by omega), hf5, va_up_ne _ _ (by omega), hf4, va_up_ne _ _ (by omega), hf3, va_up_ne _ _ (by omega), qf2_3]) (by rw [hf8, va_up_ne _ _ (by omega), hf7, va_up_ne _ _ (by omega), hf6, va_up_ne _ _ (by omega), hf5, va_up_ne _ _ (by omega), hf4, va_up_ne _ _ (by omega), hf3, va_up_ne _ _ (by omega), qf2_4]) (by rw [hf8, va_up_ne _ _ (by omega), hf7, va_up_ne _ _ (by omega), hf6, va_up_ne _ _ (by omega), hf5, va_up_ne _ _ (by omega), hf4, va_up_ne _ _ (by omega), hf3, va_up_ne _ _ (by omega), qf2_5]) (fun j hj1 hj2 => by rw [hf8, va_up_ne _ _ (by omega), hf7, va_up_ne _ _ (by omega), hf6, va_up_ne _ _ (by omega), hf5, va_up_ne _ _ (by omega), hf4, va_up_ne _ _ (by omega), hf3, va_up_ne _ _ (by omega), qf2_r _ (by omega) (by omega), hf1, va_up_ne _ _ (by omega)])
