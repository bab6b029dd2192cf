section Make4
theorem dX8_init_0 : decode cX8_init 0 = .ok (.aload_n 0, 1) := by decide +kernel
theorem dX8_init_1 : decode cX8_init 1 = .ok (.invokespecial 3, 3) := by decide +kernel
theorem dX8_init_4 : decode cX8_init 4 = .ok (.aload_n 0, 1) := by decide +kernel
theorem dX8_init_5 : decode cX8_init 5 = .ok (.bipush 8, 2) := by decide +kernel
theorem dX8_init_7 : decode cX8_init 7 = .ok (.newarray .int, 2) := by decide +kernel
theorem dX8_init_9 : decode cX8_init 9 = .ok (.putfield 9, 3) := by decide +kernel
theorem dX8_init_12 : decode cX8_init 12 = .ok (.aload_n 0, 1) := by decide +kernel
theorem dX8_init_13 : decode cX8_init 13 = .ok (.bipush 8, 2) := by decide +kernel
theorem dX8_init_15 : decode cX8_init 15 = .ok (.newarray .int, 2) := by decide +kernel
theorem dX8_init_17 : decode cX8_init 17 = .ok (.putfield 15, 3) := by decide +kernel
theorem dX8_init_20 : decode cX8_init 20 = .ok (.aload_n 0, 1) := by decide +kernel
theorem dX8_init_21 : decode cX8_init 21 = .ok (.bipush 8, 2) := by decide +kernel
theorem dX8_init_23 : decode cX8_init 23 = .ok (.newarray .int, 2) := by decide +kernel
theorem dX8_init_25 : decode cX8_init 25 = .ok (.putfield 18, 3) := by decide +kernel
theorem dX8_init_28 : decode cX8_init 28 = .ok (.aload_n 0, 1) := by decide +kernel
theorem dX8_init_29 : decode cX8_init 29 = .ok (.iconst 0, 1) := by decide +kernel
theorem dX8_init_30 : decode cX8_init 30 = .ok (.putfield 21, 3) := by decide +kernel
theorem dX8_init_33 : decode cX8_init 33 = .ok (.aload_n 0, 1) := by decide +kernel
theorem dX8_init_34 : decode cX8_init 34 = .ok (.iconst 0, 1) := by decide +kernel
theorem dX8_init_35 : decode cX8_init 35 = .ok (.putfield 25, 3) := by decide +kernel
theorem dX8_init_38 : decode cX8_init 38 = .ok (.return_, 1) := by decide +kernel
/-- the constructor of class 8 -/
theorem ct_X8 {D : va_G} {τ : gT} {Z : State → Prop} (c0 : Nat) (hb : ∀ h0 q7 q15 q23 : Nat, blk τ (fun d => [h0, q7, q15, q23].getD (d - c0) 0) c0 4 = [(h0, .inr (8, [.ref q7, .ref q15, .ref q23, .int 0, .int 0])), (q7, .inl (τ.1, 8, .inl (fun _ => 0))), (q15, .inl (τ.1, 8, .inl (fun _ => 0))), (q23, .inl (τ.1, 8, .inl (fun _ => 0)))]) : Ct D τ Z mX8_init ({ frames := 1, cells := 3, slots := 24, locals := 60 }) 3 24 8 [.null, .null, .null, .int 0, .int 0] c0 4 := by
  intro l h0 sz
  have hA : ∀ q, sz ≤ q → (va_A [(h0, .inr (8, [.null, .null, .null, .int 0, .int 0]))] sz) q := fun q h => Or.inr h
  refine k_entry (n0 := 0) (L := [.ref h0]) (by decide +kernel) rfl rfl (by decide) rfl ?_ l
  refine k_aload dX8_init_0 rfl rfl ?_
  refine k_obj dX8_init_1 (tbG_t (List.mem_of_getElem? (i := 101) (by decide +kernel)) (by decide +kernel)) (by decide) (by decide) ?_
  refine k_aload dX8_init_4 rfl rfl ?_
  refine k_bipush (v := 8) dX8_init_5 rfl ?_
  refine k_newI (n := 8) hA dX8_init_7 (tbG_t (List.mem_of_getElem? (i := 71) (by decide +kernel)) (by decide +kernel)) (by decide) (by decide) (by decide) (fun q7 => ?_)
  refine k_putF (a := h0) (ci := 8) (k := 0) (q0 := 0) (N := 5) (C := RX8) (T := TX8) (ty := tyX8 0) (v := .ref q7) (ws' := [(h0, .inr (8, [.ref q7, .null, .null, .int 0, .int 0])), (q7, .inl (τ.1, 8, .inl (fun _ => 0)))]) dX8_init_9 rfl rfl inG8 tyX8 tyX8_ok nmX8 (by decide) (tbG_t (List.mem_of_getElem? (i := 102) (by decide +kernel)) (by decide +kernel)) rfl rfl (tyX8_ok 0 (by decide)) rfl rfl (Nat.le_of_ble_eq_true rfl) rfl ?_
  refine k_aload dX8_init_12 rfl rfl ?_
  refine k_bipush (v := 8) dX8_init_13 rfl ?_
  refine k_newI (n := 8) hA dX8_init_15 (tbG_t (List.mem_of_getElem? (i := 71) (by decide +kernel)) (by decide +kernel)) (by decide) (by decide) (by decide) (fun q15 => ?_)
  refine k_putF (a := h0) (ci := 8) (k := 1) (q0 := 0) (N := 5) (C := RX8) (T := TX8) (ty := tyX8 1) (v := .ref q15) (ws' := [(h0, .inr (8, [.ref q7, .ref q15, .null, .int 0, .int 0])), (q7, .inl (τ.1, 8, .inl (fun _ => 0))), (q15, .inl (τ.1, 8, .inl (fun _ => 0)))]) dX8_init_17 rfl rfl inG8 tyX8 tyX8_ok nmX8 (by decide) (tbG_t (List.mem_of_getElem? (i := 106) (by decide +kernel)) (by decide +kernel)) rfl rfl (tyX8_ok 1 (by decide)) rfl rfl (Nat.le_of_ble_eq_true rfl) rfl ?_
  refine k_aload dX8_init_20 rfl rfl ?_
  refine k_bipush (v := 8) dX8_init_21 rfl ?_
  refine k_newI (n := 8) hA dX8_init_23 (tbG_t (List.mem_of_getElem? (i := 71) (by decide +kernel)) (by decide +kernel)) (by decide) (by decide) (by decide) (fun q23 => ?_)
  refine k_putF (a := h0) (ci := 8) (k := 2) (q0 := 0) (N := 5) (C := RX8) (T := TX8) (ty := tyX8 2) (v := .ref q23) (ws' := [(h0, .inr (8, [.ref q7, .ref q15, .ref q23, .int 0, .int 0])), (q7, .inl (τ.1, 8, .inl (fun _ => 0))), (q15, .inl (τ.1, 8, .inl (fun _ => 0))), (q23, .inl (τ.1, 8, .inl (fun _ => 0)))]) dX8_init_25 rfl rfl inG8 tyX8 tyX8_ok nmX8 (by decide) (tbG_t (List.mem_of_getElem? (i := 109) (by decide +kernel)) (by decide +kernel)) rfl rfl (tyX8_ok 2 (by decide)) rfl rfl (Nat.le_of_ble_eq_true rfl) rfl ?_
  refine k_aload dX8_init_28 rfl rfl ?_
  refine k_iconst (v := 0) dX8_init_29 rfl ?_
  refine k_put (a := h0) (ci := 8) (k := 3) (q0 := 0) (N := 5) (C := RX8) (T := TX8) (ty := tyX8 3) (v := .int 0) (ws' := [(h0, .inr (8, [.ref q7, .ref q15, .ref q23, .int 0, .int 0])), (q7, .inl (τ.1, 8, .inl (fun _ => 0))), (q15, .inl (τ.1, 8, .inl (fun _ => 0))), (q23, .inl (τ.1, 8, .inl (fun _ => 0)))]) dX8_init_30 rfl rfl inG8 tyX8 tyX8_ok nmX8 (by decide) (tbG_t (List.mem_of_getElem? (i := 111) (by decide +kernel)) (by decide +kernel)) rfl (tyX8_ok 3 (by decide)) rfl rfl (Nat.le_of_ble_eq_true rfl) rfl ?_
  refine k_aload dX8_init_33 rfl rfl ?_
  refine k_iconst (v := 0) dX8_init_34 rfl ?_
  refine k_put (a := h0) (ci := 8) (k := 4) (q0 := 0) (N := 5) (C := RX8) (T := TX8) (ty := tyX8 4) (v := .int 0) (ws' := [(h0, .inr (8, [.ref q7, .ref q15, .ref q23, .int 0, .int 0])), (q7, .inl (τ.1, 8, .inl (fun _ => 0))), (q15, .inl (τ.1, 8, .inl (fun _ => 0))), (q23, .inl (τ.1, 8, .inl (fun _ => 0)))]) dX8_init_35 rfl rfl inG8 tyX8 tyX8_ok nmX8 (by decide) (tbG_t (List.mem_of_getElem? (i := 114) (by decide +kernel)) (by decide +kernel)) rfl (tyX8_ok 4 (by decide)) rfl rfl (Nat.le_of_ble_eq_true rfl) rfl ?_
  exact k_vret dX8_init_38 rfl rfl (fun t hK hP hD => by rw [← hb h0 q7 q15 q23] at hP hD; exact ⟨_, by simp, hK, hP, hD⟩)
theorem dX9_init_0 : decode cX9_init 0 = .ok (.aload_n 0, 1) := by decide +kernel
theorem dX9_init_1 : decode cX9_init 1 = .ok (.invokespecial 3, 3) := by decide +kernel
theorem dX9_init_4 : decode cX9_init 4 = .ok (.aload_n 0, 1) := by decide +kernel
theorem dX9_init_5 : decode cX9_init 5 = .ok (.bipush 8, 2) := by decide +kernel
theorem dX9_init_7 : decode cX9_init 7 = .ok (.newarray .int, 2) := by decide +kernel
theorem dX9_init_9 : decode cX9_init 9 = .ok (.putfield 9, 3) := by decide +kernel
theorem dX9_init_12 : decode cX9_init 12 = .ok (.aload_n 0, 1) := by decide +kernel
theorem dX9_init_13 : decode cX9_init 13 = .ok (.bipush 8, 2) := by decide +kernel
theorem dX9_init_15 : decode cX9_init 15 = .ok (.newarray .int, 2) := by decide +kernel
theorem dX9_init_17 : decode cX9_init 17 = .ok (.putfield 15, 3) := by decide +kernel
theorem dX9_init_20 : decode cX9_init 20 = .ok (.aload_n 0, 1) := by decide +kernel
theorem dX9_init_21 : decode cX9_init 21 = .ok (.bipush 8, 2) := by decide +kernel
theorem dX9_init_23 : decode cX9_init 23 = .ok (.newarray .int, 2) := by decide +kernel
theorem dX9_init_25 : decode cX9_init 25 = .ok (.putfield 18, 3) := by decide +kernel
theorem dX9_init_28 : decode cX9_init 28 = .ok (.aload_n 0, 1) := by decide +kernel
theorem dX9_init_29 : decode cX9_init 29 = .ok (.bipush 12, 2) := by decide +kernel
theorem dX9_init_31 : decode cX9_init 31 = .ok (.newarray .int, 2) := by decide +kernel
theorem dX9_init_33 : decode cX9_init 33 = .ok (.putfield 21, 3) := by decide +kernel
theorem dX9_init_36 : decode cX9_init 36 = .ok (.aload_n 0, 1) := by decide +kernel
theorem dX9_init_37 : decode cX9_init 37 = .ok (.iconst 0, 1) := by decide +kernel
theorem dX9_init_38 : decode cX9_init 38 = .ok (.putfield 24, 3) := by decide +kernel
theorem dX9_init_41 : decode cX9_init 41 = .ok (.aload_n 0, 1) := by decide +kernel
theorem dX9_init_42 : decode cX9_init 42 = .ok (.iconst 0, 1) := by decide +kernel
theorem dX9_init_43 : decode cX9_init 43 = .ok (.putfield 28, 3) := by decide +kernel
theorem dX9_init_46 : decode cX9_init 46 = .ok (.aload_n 0, 1) := by decide +kernel
theorem dX9_init_47 : decode cX9_init 47 = .ok (.iconst 0, 1) := by decide +kernel
theorem dX9_init_48 : decode cX9_init 48 = .ok (.putfield 31, 3) := by decide +kernel
theorem dX9_init_51 : decode cX9_init 51 = .ok (.aload_n 0, 1) := by decide +kernel
theorem dX9_init_52 : decode cX9_init 52 = .ok (.iconst 0, 1) := by decide +kernel
theorem dX9_init_53 : decode cX9_init 53 = .ok (.putfield 34, 3) := by decide +kernel
theorem dX9_init_56 : decode cX9_init 56 = .ok (.return_, 1) := by decide +kernel
/-- the constructor of class 9 -/
theorem ct_X9 {D : va_G} {τ : gT} {Z : State → Prop} (c0 : Nat) (hb : ∀ h0 q7 q15 q23 q31 : Nat, blk τ (fun d => [h0, q7, q15, q23, q31].getD (d - c0) 0) c0 5 = [(h0, .inr (9, [.ref q7, .ref q15, .ref q23, .ref q31, .int 0, .int 0, .int 0, .int 0])), (q7, .inl (τ.1, 8, .inl (fun _ => 0))), (q15, .inl (τ.1, 8, .inl (fun _ => 0))), (q23, .inl (τ.1, 8, .inl (fun _ => 0))), (q31, .inl (τ.1, 12, .inl (fun _ => 0)))]) : Ct D τ Z mX9_init ({ frames := 1, cells := 4, slots := 36, locals := 60 }) 4 36 9 [.null, .null, .null, .null, .int 0, .int 0, .int 0, .int 0] c0 5 := by
  intro l h0 sz
  have hA : ∀ q, sz ≤ q → (va_A [(h0, .inr (9, [.null, .null, .null, .null, .int 0, .int 0, .int 0, .int 0]))] sz) q := fun q h => Or.inr h
  refine k_entry (n0 := 0) (L := [.ref h0]) (by decide +kernel) rfl rfl (by decide) rfl ?_ l
  refine k_aload dX9_init_0 rfl rfl ?_
  refine k_obj dX9_init_1 (tbG_t (List.mem_of_getElem? (i := 29) (by decide +kernel)) (by decide +kernel)) (by decide) (by decide) ?_
  refine k_aload dX9_init_4 rfl rfl ?_
  refine k_bipush (v := 8) dX9_init_5 rfl ?_
  refine k_newI (n := 8) hA dX9_init_7 (tbG_t (List.mem_of_getElem? (i := 71) (by decide +kernel)) (by decide +kernel)) (by decide) (by decide) (by decide) (fun q7 => ?_)
  refine k_putF (a := h0) (ci := 9) (k := 0) (q0 := 0) (N := 8) (C := RX9) (T := TX9) (ty := tyX9 0) (v := .ref q7) (ws' := [(h0, .inr (9, [.ref q7, .null, .null, .null, .int 0, .int 0, .int 0, .int 0])), (q7, .inl (τ.1, 8, .inl (fun _ => 0)))]) dX9_init_9 rfl rfl inG9 tyX9 tyX9_ok nmX9 (by decide) (tbG_t (List.mem_of_getElem? (i := 30) (by decide +kernel)) (by decide +kernel)) rfl rfl (tyX9_ok 0 (by decide)) rfl rfl (Nat.le_of_ble_eq_true rfl) rfl ?_
  refine k_aload dX9_init_12 rfl rfl ?_
  refine k_bipush (v := 8) dX9_init_13 rfl ?_
  refine k_newI (n := 8) hA dX9_init_15 (tbG_t (List.mem_of_getElem? (i := 71) (by decide +kernel)) (by decide +kernel)) (by decide) (by decide) (by decide) (fun q15 => ?_)
  refine k_putF (a := h0) (ci := 9) (k := 1) (q0 := 0) (N := 8) (C := RX9) (T := TX9) (ty := tyX9 1) (v := .ref q15) (ws' := [(h0, .inr (9, [.ref q7, .ref q15, .null, .null, .int 0, .int 0, .int 0, .int 0])), (q7, .inl (τ.1, 8, .inl (fun _ => 0))), (q15, .inl (τ.1, 8, .inl (fun _ => 0)))]) dX9_init_17 rfl rfl inG9 tyX9 tyX9_ok nmX9 (by decide) (tbG_t (List.mem_of_getElem? (i := 35) (by decide +kernel)) (by decide +kernel)) rfl rfl (tyX9_ok 1 (by decide)) rfl rfl (Nat.le_of_ble_eq_true rfl) rfl ?_
  refine k_aload dX9_init_20 rfl rfl ?_
  refine k_bipush (v := 8) dX9_init_21 rfl ?_
  refine k_newI (n := 8) hA dX9_init_23 (tbG_t (List.mem_of_getElem? (i := 71) (by decide +kernel)) (by decide +kernel)) (by decide) (by decide) (by decide) (fun q23 => ?_)
  refine k_putF (a := h0) (ci := 9) (k := 2) (q0 := 0) (N := 8) (C := RX9) (T := TX9) (ty := tyX9 2) (v := .ref q23) (ws' := [(h0, .inr (9, [.ref q7, .ref q15, .ref q23, .null, .int 0, .int 0, .int 0, .int 0])), (q7, .inl (τ.1, 8, .inl (fun _ => 0))), (q15, .inl (τ.1, 8, .inl (fun _ => 0))), (q23, .inl (τ.1, 8, .inl (fun _ => 0)))]) dX9_init_25 rfl rfl inG9 tyX9 tyX9_ok nmX9 (by decide) (tbG_t (List.mem_of_getElem? (i := 38) (by decide +kernel)) (by decide +kernel)) rfl rfl (tyX9_ok 2 (by decide)) rfl rfl (Nat.le_of_ble_eq_true rfl) rfl ?_
  refine k_aload dX9_init_28 rfl rfl ?_
  refine k_bipush (v := 12) dX9_init_29 rfl ?_
  refine k_newI (n := 12) hA dX9_init_31 (tbG_t (List.mem_of_getElem? (i := 71) (by decide +kernel)) (by decide +kernel)) (by decide) (by decide) (by decide) (fun q31 => ?_)
  refine k_putF (a := h0) (ci := 9) (k := 3) (q0 := 0) (N := 8) (C := RX9) (T := TX9) (ty := tyX9 3) (v := .ref q31) (ws' := [(h0, .inr (9, [.ref q7, .ref q15, .ref q23, .ref q31, .int 0, .int 0, .int 0, .int 0])), (q7, .inl (τ.1, 8, .inl (fun _ => 0))), (q15, .inl (τ.1, 8, .inl (fun _ => 0))), (q23, .inl (τ.1, 8, .inl (fun _ => 0))), (q31, .inl (τ.1, 12, .inl (fun _ => 0)))]) dX9_init_33 rfl rfl inG9 tyX9 tyX9_ok nmX9 (by decide) (tbG_t (List.mem_of_getElem? (i := 41) (by decide +kernel)) (by decide +kernel)) rfl rfl (tyX9_ok 3 (by decide)) rfl rfl (Nat.le_of_ble_eq_true rfl) rfl ?_
  refine k_aload dX9_init_36 rfl rfl ?_
  refine k_iconst (v := 0) dX9_init_37 rfl ?_
  refine k_put (a := h0) (ci := 9) (k := 4) (q0 := 0) (N := 8) (C := RX9) (T := TX9) (ty := tyX9 4) (v := .int 0) (ws' := [(h0, .inr (9, [.ref q7, .ref q15, .ref q23, .ref q31, .int 0, .int 0, .int 0, .int 0])), (q7, .inl (τ.1, 8, .inl (fun _ => 0))), (q15, .inl (τ.1, 8, .inl (fun _ => 0))), (q23, .inl (τ.1, 8, .inl (fun _ => 0))), (q31, .inl (τ.1, 12, .inl (fun _ => 0)))]) dX9_init_38 rfl rfl inG9 tyX9 tyX9_ok nmX9 (by decide) (tbG_t (List.mem_of_getElem? (i := 43) (by decide +kernel)) (by decide +kernel)) rfl (tyX9_ok 4 (by decide)) rfl rfl (Nat.le_of_ble_eq_true rfl) rfl ?_
  refine k_aload dX9_init_41 rfl rfl ?_
  refine k_iconst (v := 0) dX9_init_42 rfl ?_
  refine k_put (a := h0) (ci := 9) (k := 5) (q0 := 0) (N := 8) (C := RX9) (T := TX9) (ty := tyX9 5) (v := .int 0) (ws' := [(h0, .inr (9, [.ref q7, .ref q15, .ref q23, .ref q31, .int 0, .int 0, .int 0, .int 0])), (q7, .inl (τ.1, 8, .inl (fun _ => 0))), (q15, .inl (τ.1, 8, .inl (fun _ => 0))), (q23, .inl (τ.1, 8, .inl (fun _ => 0))), (q31, .inl (τ.1, 12, .inl (fun _ => 0)))]) dX9_init_43 rfl rfl inG9 tyX9 tyX9_ok nmX9 (by decide) (tbG_t (List.mem_of_getElem? (i := 46) (by decide +kernel)) (by decide +kernel)) rfl (tyX9_ok 5 (by decide)) rfl rfl (Nat.le_of_ble_eq_true rfl) rfl ?_
  refine k_aload dX9_init_46 rfl rfl ?_
  refine k_iconst (v := 0) dX9_init_47 rfl ?_
  refine k_put (a := h0) (ci := 9) (k := 6) (q0 := 0) (N := 8) (C := RX9) (T := TX9) (ty := tyX9 6) (v := .int 0) (ws' := [(h0, .inr (9, [.ref q7, .ref q15, .ref q23, .ref q31, .int 0, .int 0, .int 0, .int 0])), (q7, .inl (τ.1, 8, .inl (fun _ => 0))), (q15, .inl (τ.1, 8, .inl (fun _ => 0))), (q23, .inl (τ.1, 8, .inl (fun _ => 0))), (q31, .inl (τ.1, 12, .inl (fun _ => 0)))]) dX9_init_48 rfl rfl inG9 tyX9 tyX9_ok nmX9 (by decide) (tbG_t (List.mem_of_getElem? (i := 49) (by decide +kernel)) (by decide +kernel)) rfl (tyX9_ok 6 (by decide)) rfl rfl (Nat.le_of_ble_eq_true rfl) rfl ?_
  refine k_aload dX9_init_51 rfl rfl ?_
  refine k_iconst (v := 0) dX9_init_52 rfl ?_
  refine k_put (a := h0) (ci := 9) (k := 7) (q0 := 0) (N := 8) (C := RX9) (T := TX9) (ty := tyX9 7) (v := .int 0) (ws' := [(h0, .inr (9, [.ref q7, .ref q15, .ref q23, .ref q31, .int 0, .int 0, .int 0, .int 0])), (q7, .inl (τ.1, 8, .inl (fun _ => 0))), (q15, .inl (τ.1, 8, .inl (fun _ => 0))), (q23, .inl (τ.1, 8, .inl (fun _ => 0))), (q31, .inl (τ.1, 12, .inl (fun _ => 0)))]) dX9_init_53 rfl rfl inG9 tyX9 tyX9_ok nmX9 (by decide) (tbG_t (List.mem_of_getElem? (i := 52) (by decide +kernel)) (by decide +kernel)) rfl (tyX9_ok 7 (by decide)) rfl rfl (Nat.le_of_ble_eq_true rfl) rfl ?_
  exact k_vret dX9_init_56 rfl rfl (fun t hK hP hD => by rw [← hb h0 q7 q15 q23 q31] at hP hD; exact ⟨_, by simp, hK, hP, hD⟩)
theorem dX5_init_0 : decode cX5_init 0 = .ok (.aload_n 0, 1) := by decide +kernel
theorem dX5_init_1 : decode cX5_init 1 = .ok (.invokespecial 3, 3) := by decide +kernel
theorem dX5_init_4 : decode cX5_init 4 = .ok (.aload_n 0, 1) := by decide +kernel
theorem dX5_init_5 : decode cX5_init 5 = .ok (.sipush 240, 3) := by decide +kernel
theorem dX5_init_8 : decode cX5_init 8 = .ok (.newarray .int, 2) := by decide +kernel
theorem dX5_init_10 : decode cX5_init 10 = .ok (.putfield 9, 3) := by decide +kernel
theorem dX5_init_13 : decode cX5_init 13 = .ok (.aload_n 0, 1) := by decide +kernel
theorem dX5_init_14 : decode cX5_init 14 = .ok (.iconst 0, 1) := by decide +kernel
theorem dX5_init_15 : decode cX5_init 15 = .ok (.putfield 15, 3) := by decide +kernel
theorem dX5_init_18 : decode cX5_init 18 = .ok (.aload_n 0, 1) := by decide +kernel
theorem dX5_init_19 : decode cX5_init 19 = .ok (.iconst 0, 1) := by decide +kernel
theorem dX5_init_20 : decode cX5_init 20 = .ok (.putfield 19, 3) := by decide +kernel
theorem dX5_init_23 : decode cX5_init 23 = .ok (.aload_n 0, 1) := by decide +kernel
theorem dX5_init_24 : decode cX5_init 24 = .ok (.iconst 0, 1) := by decide +kernel
theorem dX5_init_25 : decode cX5_init 25 = .ok (.putfield 22, 3) := by decide +kernel
theorem dX5_init_28 : decode cX5_init 28 = .ok (.aload_n 0, 1) := by decide +kernel
theorem dX5_init_29 : decode cX5_init 29 = .ok (.iconst (-1), 1) := by decide +kernel
theorem dX5_init_30 : decode cX5_init 30 = .ok (.putfield 25, 3) := by decide +kernel
theorem dX5_init_33 : decode cX5_init 33 = .ok (.return_, 1) := by decide +kernel
/-- the constructor of class 5 -/
theorem ct_X5 {D : va_G} {τ : gT} {Z : State → Prop} (c0 : Nat) (hb : ∀ h0 q8 : Nat, blk τ (fun d => [h0, q8].getD (d - c0) 0) c0 2 = [(h0, .inr (5, [.ref q8, .int 0, .int 0, .int 0, .int (-1)])), (q8, .inl (τ.1, 240, .inl (fun _ => 0)))]) : Ct D τ Z mX5_init ({ frames := 1, cells := 1, slots := 240, locals := 60 }) 1 240 5 [.null, .int 0, .int 0, .int 0, .int 0] c0 2 := by
  intro l h0 sz
  have hA : ∀ q, sz ≤ q → (va_A [(h0, .inr (5, [.null, .int 0, .int 0, .int 0, .int 0]))] sz) q := fun q h => Or.inr h
  refine k_entry (n0 := 0) (L := [.ref h0]) (by decide +kernel) rfl rfl (by decide) rfl ?_ l
  refine k_aload dX5_init_0 rfl rfl ?_
  refine k_obj dX5_init_1 (tbG_t (List.mem_of_getElem? (i := 77) (by decide +kernel)) (by decide +kernel)) (by decide) (by decide) ?_
  refine k_aload dX5_init_4 rfl rfl ?_
  refine k_sipush (v := 240) dX5_init_5 rfl ?_
  refine k_newI (n := 240) hA dX5_init_8 (tbG_t (List.mem_of_getElem? (i := 71) (by decide +kernel)) (by decide +kernel)) (by decide) (by decide) (by decide) (fun q8 => ?_)
  refine k_putF (a := h0) (ci := 5) (k := 0) (q0 := 0) (N := 5) (C := RX5) (T := TX5) (ty := tyX5 0) (v := .ref q8) (ws' := [(h0, .inr (5, [.ref q8, .int 0, .int 0, .int 0, .int 0])), (q8, .inl (τ.1, 240, .inl (fun _ => 0)))]) dX5_init_10 rfl rfl inG5 tyX5 tyX5_ok nmX5 (by decide) (tbG_t (List.mem_of_getElem? (i := 78) (by decide +kernel)) (by decide +kernel)) rfl rfl (tyX5_ok 0 (by decide)) rfl rfl (Nat.le_of_ble_eq_true rfl) rfl ?_
  refine k_aload dX5_init_13 rfl rfl ?_
  refine k_iconst (v := 0) dX5_init_14 rfl ?_
  refine k_put (a := h0) (ci := 5) (k := 1) (q0 := 0) (N := 5) (C := RX5) (T := TX5) (ty := tyX5 1) (v := .int 0) (ws' := [(h0, .inr (5, [.ref q8, .int 0, .int 0, .int 0, .int 0])), (q8, .inl (τ.1, 240, .inl (fun _ => 0)))]) dX5_init_15 rfl rfl inG5 tyX5 tyX5_ok nmX5 (by decide) (tbG_t (List.mem_of_getElem? (i := 79) (by decide +kernel)) (by decide +kernel)) rfl (tyX5_ok 1 (by decide)) rfl rfl (Nat.le_of_ble_eq_true rfl) rfl ?_
  refine k_aload dX5_init_18 rfl rfl ?_
  refine k_iconst (v := 0) dX5_init_19 rfl ?_
  refine k_put (a := h0) (ci := 5) (k := 2) (q0 := 0) (N := 5) (C := RX5) (T := TX5) (ty := tyX5 2) (v := .int 0) (ws' := [(h0, .inr (5, [.ref q8, .int 0, .int 0, .int 0, .int 0])), (q8, .inl (τ.1, 240, .inl (fun _ => 0)))]) dX5_init_20 rfl rfl inG5 tyX5 tyX5_ok nmX5 (by decide) (tbG_t (List.mem_of_getElem? (i := 81) (by decide +kernel)) (by decide +kernel)) rfl (tyX5_ok 2 (by decide)) rfl rfl (Nat.le_of_ble_eq_true rfl) rfl ?_
  refine k_aload dX5_init_23 rfl rfl ?_
  refine k_iconst (v := 0) dX5_init_24 rfl ?_
  refine k_put (a := h0) (ci := 5) (k := 3) (q0 := 0) (N := 5) (C := RX5) (T := TX5) (ty := tyX5 3) (v := .int 0) (ws' := [(h0, .inr (5, [.ref q8, .int 0, .int 0, .int 0, .int 0])), (q8, .inl (τ.1, 240, .inl (fun _ => 0)))]) dX5_init_25 rfl rfl inG5 tyX5 tyX5_ok nmX5 (by decide) (tbG_t (List.mem_of_getElem? (i := 82) (by decide +kernel)) (by decide +kernel)) rfl (tyX5_ok 3 (by decide)) rfl rfl (Nat.le_of_ble_eq_true rfl) rfl ?_
  refine k_aload dX5_init_28 rfl rfl ?_
  refine k_iconst (v := (-1)) dX5_init_29 rfl ?_
  refine k_put (a := h0) (ci := 5) (k := 4) (q0 := 0) (N := 5) (C := RX5) (T := TX5) (ty := tyX5 4) (v := .int (-1)) (ws' := [(h0, .inr (5, [.ref q8, .int 0, .int 0, .int 0, .int (-1)])), (q8, .inl (τ.1, 240, .inl (fun _ => 0)))]) dX5_init_30 rfl rfl inG5 tyX5 tyX5_ok nmX5 (by decide) (tbG_t (List.mem_of_getElem? (i := 83) (by decide +kernel)) (by decide +kernel)) rfl (tyX5_ok 4 (by decide)) rfl rfl (Nat.le_of_ble_eq_true rfl) rfl ?_
  exact k_vret dX5_init_33 rfl rfl (fun t hK hP hD => by rw [← hb h0 q8] at hP hD; exact ⟨_, by simp, hK, hP, hD⟩)
theorem dX1_init_0 : decode cX1_init 0 = .ok (.aload_n 0, 1) := by decide +kernel
theorem dX1_init_1 : decode cX1_init 1 = .ok (.invokespecial 3, 3) := by decide +kernel
theorem dX1_init_4 : decode cX1_init 4 = .ok (.aload_n 0, 1) := by decide +kernel
theorem dX1_init_5 : decode cX1_init 5 = .ok (.iconst 5, 1) := by decide +kernel
theorem dX1_init_6 : decode cX1_init 6 = .ok (.newarray .int, 2) := by decide +kernel
theorem dX1_init_8 : decode cX1_init 8 = .ok (.putfield 9, 3) := by decide +kernel
theorem dX1_init_11 : decode cX1_init 11 = .ok (.aload_n 0, 1) := by decide +kernel
theorem dX1_init_12 : decode cX1_init 12 = .ok (.bipush 48, 2) := by decide +kernel
theorem dX1_init_14 : decode cX1_init 14 = .ok (.newarray .int, 2) := by decide +kernel
theorem dX1_init_16 : decode cX1_init 16 = .ok (.putfield 15, 3) := by decide +kernel
theorem dX1_init_19 : decode cX1_init 19 = .ok (.return_, 1) := by decide +kernel
/-- the constructor of class 1 -/
theorem ct_X1 {D : va_G} {τ : gT} {Z : State → Prop} (c0 : Nat) (hb : ∀ h0 q6 q14 : Nat, blk τ (fun d => [h0, q6, q14].getD (d - c0) 0) c0 3 = [(h0, .inr (1, [.ref q6, .ref q14])), (q6, .inl (τ.1, 5, .inl (fun _ => 0))), (q14, .inl (τ.1, 48, .inl (fun _ => 0)))]) : Ct D τ Z mX1_init ({ frames := 1, cells := 2, slots := 53, locals := 60 }) 2 53 1 [.null, .null] c0 3 := by
  intro l h0 sz
  have hA : ∀ q, sz ≤ q → (va_A [(h0, .inr (1, [.null, .null]))] sz) q := fun q h => Or.inr h
  refine k_entry (n0 := 0) (L := [.ref h0]) (by decide +kernel) rfl rfl (by decide) rfl ?_ l
  refine k_aload dX1_init_0 rfl rfl ?_
  refine k_obj dX1_init_1 (tbG_t (List.mem_of_getElem? (i := 174) (by decide +kernel)) (by decide +kernel)) (by decide) (by decide) ?_
  refine k_aload dX1_init_4 rfl rfl ?_
  refine k_iconst (v := 5) dX1_init_5 rfl ?_
  refine k_newI (n := 5) hA dX1_init_6 (tbG_t (List.mem_of_getElem? (i := 71) (by decide +kernel)) (by decide +kernel)) (by decide) (by decide) (by decide) (fun q6 => ?_)
  refine k_putF (a := h0) (ci := 1) (k := 0) (q0 := 0) (N := 2) (C := RX1) (T := TX1) (ty := tyX1 0) (v := .ref q6) (ws' := [(h0, .inr (1, [.ref q6, .null])), (q6, .inl (τ.1, 5, .inl (fun _ => 0)))]) dX1_init_8 rfl rfl inG1 tyX1 tyX1_ok nmX1 (by decide) (tbG_t (List.mem_of_getElem? (i := 175) (by decide +kernel)) (by decide +kernel)) rfl rfl (tyX1_ok 0 (by decide)) rfl rfl (Nat.le_of_ble_eq_true rfl) rfl ?_
  refine k_aload dX1_init_11 rfl rfl ?_
  refine k_bipush (v := 48) dX1_init_12 rfl ?_
  refine k_newI (n := 48) hA dX1_init_14 (tbG_t (List.mem_of_getElem? (i := 71) (by decide +kernel)) (by decide +kernel)) (by decide) (by decide) (by decide) (fun q14 => ?_)
  refine k_putF (a := h0) (ci := 1) (k := 1) (q0 := 0) (N := 2) (C := RX1) (T := TX1) (ty := tyX1 1) (v := .ref q14) (ws' := [(h0, .inr (1, [.ref q6, .ref q14])), (q6, .inl (τ.1, 5, .inl (fun _ => 0))), (q14, .inl (τ.1, 48, .inl (fun _ => 0)))]) dX1_init_16 rfl rfl inG1 tyX1 tyX1_ok nmX1 (by decide) (tbG_t (List.mem_of_getElem? (i := 176) (by decide +kernel)) (by decide +kernel)) rfl rfl (tyX1_ok 1 (by decide)) rfl rfl (Nat.le_of_ble_eq_true rfl) rfl ?_
  exact k_vret dX1_init_19 rfl rfl (fun t hK hP hD => by rw [← hb h0 q6 q14] at hP hD; exact ⟨_, by simp, hK, hP, hD⟩)
theorem dX7_init_0 : decode cX7_init 0 = .ok (.aload_n 0, 1) := by decide +kernel
theorem dX7_init_1 : decode cX7_init 1 = .ok (.invokespecial 3, 3) := by decide +kernel
theorem dX7_init_4 : decode cX7_init 4 = .ok (.aload_n 0, 1) := by decide +kernel
theorem dX7_init_5 : decode cX7_init 5 = .ok (.sipush 2560, 3) := by decide +kernel
theorem dX7_init_8 : decode cX7_init 8 = .ok (.newarray .int, 2) := by decide +kernel
theorem dX7_init_10 : decode cX7_init 10 = .ok (.putfield 11, 3) := by decide +kernel
theorem dX7_init_13 : decode cX7_init 13 = .ok (.aload_n 0, 1) := by decide +kernel
theorem dX7_init_14 : decode cX7_init 14 = .ok (.bipush 9, 2) := by decide +kernel
theorem dX7_init_16 : decode cX7_init 16 = .ok (.newarray .int, 2) := by decide +kernel
theorem dX7_init_18 : decode cX7_init 18 = .ok (.putfield 15, 3) := by decide +kernel
theorem dX7_init_21 : decode cX7_init 21 = .ok (.return_, 1) := by decide +kernel
/-- the constructor of class 7 -/
theorem ct_X7 {D : va_G} {τ : gT} {Z : State → Prop} (c0 : Nat) (hb : ∀ h0 q8 q16 : Nat, blk τ (fun d => [h0, q8, q16].getD (d - c0) 0) c0 3 = [(h0, .inr (7, [.ref q8, .ref q16])), (q8, .inl (τ.1, 2560, .inl (fun _ => 0))), (q16, .inl (τ.1, 9, .inl (fun _ => 0)))]) : Ct D τ Z mX7_init ({ frames := 1, cells := 2, slots := 2569, locals := 60 }) 2 2569 7 [.null, .null] c0 3 := by
  intro l h0 sz
  have hA : ∀ q, sz ≤ q → (va_A [(h0, .inr (7, [.null, .null]))] sz) q := fun q h => Or.inr h
  refine k_entry (n0 := 0) (L := [.ref h0]) (by decide +kernel) rfl rfl (by decide) rfl ?_ l
  refine k_aload dX7_init_0 rfl rfl ?_
  refine k_obj dX7_init_1 (tbG_t (List.mem_of_getElem? (i := 187) (by decide +kernel)) (by decide +kernel)) (by decide) (by decide) ?_
  refine k_aload dX7_init_4 rfl rfl ?_
  refine k_sipush (v := 2560) dX7_init_5 rfl ?_
  refine k_newI (n := 2560) hA dX7_init_8 (tbG_t (List.mem_of_getElem? (i := 71) (by decide +kernel)) (by decide +kernel)) (by decide) (by decide) (by decide) (fun q8 => ?_)
  refine k_putF (a := h0) (ci := 7) (k := 0) (q0 := 0) (N := 2) (C := RX7) (T := TX7) (ty := tyX7 0) (v := .ref q8) (ws' := [(h0, .inr (7, [.ref q8, .null])), (q8, .inl (τ.1, 2560, .inl (fun _ => 0)))]) dX7_init_10 rfl rfl inG7 tyX7 tyX7_ok nmX7 (by decide) (tbG_t (List.mem_of_getElem? (i := 188) (by decide +kernel)) (by decide +kernel)) rfl rfl (tyX7_ok 0 (by decide)) rfl rfl (Nat.le_of_ble_eq_true rfl) rfl ?_
  refine k_aload dX7_init_13 rfl rfl ?_
  refine k_bipush (v := 9) dX7_init_14 rfl ?_
  refine k_newI (n := 9) hA dX7_init_16 (tbG_t (List.mem_of_getElem? (i := 71) (by decide +kernel)) (by decide +kernel)) (by decide) (by decide) (by decide) (fun q16 => ?_)
  refine k_putF (a := h0) (ci := 7) (k := 1) (q0 := 0) (N := 2) (C := RX7) (T := TX7) (ty := tyX7 1) (v := .ref q16) (ws' := [(h0, .inr (7, [.ref q8, .ref q16])), (q8, .inl (τ.1, 2560, .inl (fun _ => 0))), (q16, .inl (τ.1, 9, .inl (fun _ => 0)))]) dX7_init_18 rfl rfl inG7 tyX7 tyX7_ok nmX7 (by decide) (tbG_t (List.mem_of_getElem? (i := 189) (by decide +kernel)) (by decide +kernel)) rfl rfl (tyX7_ok 1 (by decide)) rfl rfl (Nat.le_of_ble_eq_true rfl) rfl ?_
  exact k_vret dX7_init_21 rfl rfl (fun t hK hP hD => by rw [← hb h0 q8 q16] at hP hD; exact ⟨_, by simp, hK, hP, hD⟩)
theorem dX6_init_0 : decode cX6_init 0 = .ok (.aload_n 0, 1) := by decide +kernel
theorem dX6_init_1 : decode cX6_init 1 = .ok (.invokespecial 3, 3) := by decide +kernel
theorem dX6_init_4 : decode cX6_init 4 = .ok (.aload_n 0, 1) := by decide +kernel
theorem dX6_init_5 : decode cX6_init 5 = .ok (.bipush 6, 2) := by decide +kernel
theorem dX6_init_7 : decode cX6_init 7 = .ok (.newarray .int, 2) := by decide +kernel
theorem dX6_init_9 : decode cX6_init 9 = .ok (.putfield 9, 3) := by decide +kernel
theorem dX6_init_12 : decode cX6_init 12 = .ok (.aload_n 0, 1) := by decide +kernel
theorem dX6_init_13 : decode cX6_init 13 = .ok (.bipush 6, 2) := by decide +kernel
theorem dX6_init_15 : decode cX6_init 15 = .ok (.newarray .int, 2) := by decide +kernel
theorem dX6_init_17 : decode cX6_init 17 = .ok (.putfield 15, 3) := by decide +kernel
theorem dX6_init_20 : decode cX6_init 20 = .ok (.aload_n 0, 1) := by decide +kernel
theorem dX6_init_21 : decode cX6_init 21 = .ok (.bipush 9, 2) := by decide +kernel
theorem dX6_init_23 : decode cX6_init 23 = .ok (.newarray .int, 2) := by decide +kernel
theorem dX6_init_25 : decode cX6_init 25 = .ok (.putfield 18, 3) := by decide +kernel
theorem dX6_init_28 : decode cX6_init 28 = .ok (.aload_n 0, 1) := by decide +kernel
theorem dX6_init_29 : decode cX6_init 29 = .ok (.iconst 0, 1) := by decide +kernel
theorem dX6_init_30 : decode cX6_init 30 = .ok (.putfield 21, 3) := by decide +kernel
theorem dX6_init_33 : decode cX6_init 33 = .ok (.return_, 1) := by decide +kernel
/-- the constructor of class 6 -/
theorem ct_X6 {D : va_G} {τ : gT} {Z : State → Prop} (c0 : Nat) (hb : ∀ h0 q7 q15 q23 : Nat, blk τ (fun d => [h0, q7, q15, q23].getD (d - c0) 0) c0 4 = [(h0, .inr (6, [.ref q7, .ref q15, .ref q23, .int 0])), (q7, .inl (τ.1, 6, .inl (fun _ => 0))), (q15, .inl (τ.1, 6, .inl (fun _ => 0))), (q23, .inl (τ.1, 9, .inl (fun _ => 0)))]) : Ct D τ Z mX6_init ({ frames := 1, cells := 3, slots := 21, locals := 60 }) 3 21 6 [.null, .null, .null, .int 0] c0 4 := by
  intro l h0 sz
  have hA : ∀ q, sz ≤ q → (va_A [(h0, .inr (6, [.null, .null, .null, .int 0]))] sz) q := fun q h => Or.inr h
  refine k_entry (n0 := 0) (L := [.ref h0]) (by decide +kernel) rfl rfl (by decide) rfl ?_ l
  refine k_aload dX6_init_0 rfl rfl ?_
  refine k_obj dX6_init_1 (tbG_t (List.mem_of_getElem? (i := 201) (by decide +kernel)) (by decide +kernel)) (by decide) (by decide) ?_
  refine k_aload dX6_init_4 rfl rfl ?_
  refine k_bipush (v := 6) dX6_init_5 rfl ?_
  refine k_newI (n := 6) hA dX6_init_7 (tbG_t (List.mem_of_getElem? (i := 71) (by decide +kernel)) (by decide +kernel)) (by decide) (by decide) (by decide) (fun q7 => ?_)
  refine k_putF (a := h0) (ci := 6) (k := 0) (q0 := 0) (N := 4) (C := RX6) (T := TX6) (ty := tyX6 0) (v := .ref q7) (ws' := [(h0, .inr (6, [.ref q7, .null, .null, .int 0])), (q7, .inl (τ.1, 6, .inl (fun _ => 0)))]) dX6_init_9 rfl rfl inG6 tyX6 tyX6_ok nmX6 (by decide) (tbG_t (List.mem_of_getElem? (i := 202) (by decide +kernel)) (by decide +kernel)) rfl rfl (tyX6_ok 0 (by decide)) rfl rfl (Nat.le_of_ble_eq_true rfl) rfl ?_
  refine k_aload dX6_init_12 rfl rfl ?_
  refine k_bipush (v := 6) dX6_init_13 rfl ?_
  refine k_newI (n := 6) hA dX6_init_15 (tbG_t (List.mem_of_getElem? (i := 71) (by decide +kernel)) (by decide +kernel)) (by decide) (by decide) (by decide) (fun q15 => ?_)
  refine k_putF (a := h0) (ci := 6) (k := 1) (q0 := 0) (N := 4) (C := RX6) (T := TX6) (ty := tyX6 1) (v := .ref q15) (ws' := [(h0, .inr (6, [.ref q7, .ref q15, .null, .int 0])), (q7, .inl (τ.1, 6, .inl (fun _ => 0))), (q15, .inl (τ.1, 6, .inl (fun _ => 0)))]) dX6_init_17 rfl rfl inG6 tyX6 tyX6_ok nmX6 (by decide) (tbG_t (List.mem_of_getElem? (i := 203) (by decide +kernel)) (by decide +kernel)) rfl rfl (tyX6_ok 1 (by decide)) rfl rfl (Nat.le_of_ble_eq_true rfl) rfl ?_
  refine k_aload dX6_init_20 rfl rfl ?_
  refine k_bipush (v := 9) dX6_init_21 rfl ?_
  refine k_newI (n := 9) hA dX6_init_23 (tbG_t (List.mem_of_getElem? (i := 71) (by decide +kernel)) (by decide +kernel)) (by decide) (by decide) (by decide) (fun q23 => ?_)
  refine k_putF (a := h0) (ci := 6) (k := 2) (q0 := 0) (N := 4) (C := RX6) (T := TX6) (ty := tyX6 2) (v := .ref q23) (ws' := [(h0, .inr (6, [.ref q7, .ref q15, .ref q23, .int 0])), (q7, .inl (τ.1, 6, .inl (fun _ => 0))), (q15, .inl (τ.1, 6, .inl (fun _ => 0))), (q23, .inl (τ.1, 9, .inl (fun _ => 0)))]) dX6_init_25 rfl rfl inG6 tyX6 tyX6_ok nmX6 (by decide) (tbG_t (List.mem_of_getElem? (i := 204) (by decide +kernel)) (by decide +kernel)) rfl rfl (tyX6_ok 2 (by decide)) rfl rfl (Nat.le_of_ble_eq_true rfl) rfl ?_
  refine k_aload dX6_init_28 rfl rfl ?_
  refine k_iconst (v := 0) dX6_init_29 rfl ?_
  refine k_put (a := h0) (ci := 6) (k := 3) (q0 := 0) (N := 4) (C := RX6) (T := TX6) (ty := tyX6 3) (v := .int 0) (ws' := [(h0, .inr (6, [.ref q7, .ref q15, .ref q23, .int 0])), (q7, .inl (τ.1, 6, .inl (fun _ => 0))), (q15, .inl (τ.1, 6, .inl (fun _ => 0))), (q23, .inl (τ.1, 9, .inl (fun _ => 0)))]) dX6_init_30 rfl rfl inG6 tyX6 tyX6_ok nmX6 (by decide) (tbG_t (List.mem_of_getElem? (i := 205) (by decide +kernel)) (by decide +kernel)) rfl (tyX6_ok 3 (by decide)) rfl rfl (Nat.le_of_ble_eq_true rfl) rfl ?_
  exact k_vret dX6_init_33 rfl rfl (fun t hK hP hD => by rw [← hb h0 q7 q15 q23] at hP hD; exact ⟨_, by simp, hK, hP, hD⟩)
theorem dX3_init_0 : decode cX3_init 0 = .ok (.aload_n 0, 1) := by decide +kernel
theorem dX3_init_1 : decode cX3_init 1 = .ok (.invokespecial 3, 3) := by decide +kernel
theorem dX3_init_4 : decode cX3_init 4 = .ok (.aload_n 0, 1) := by decide +kernel
theorem dX3_init_5 : decode cX3_init 5 = .ok (.bipush 10, 2) := by decide +kernel
theorem dX3_init_7 : decode cX3_init 7 = .ok (.newarray .int, 2) := by decide +kernel
theorem dX3_init_9 : decode cX3_init 9 = .ok (.putfield 9, 3) := by decide +kernel
theorem dX3_init_12 : decode cX3_init 12 = .ok (.aload_n 0, 1) := by decide +kernel
theorem dX3_init_13 : decode cX3_init 13 = .ok (.bipush 10, 2) := by decide +kernel
theorem dX3_init_15 : decode cX3_init 15 = .ok (.newarray .int, 2) := by decide +kernel
theorem dX3_init_17 : decode cX3_init 17 = .ok (.putfield 15, 3) := by decide +kernel
theorem dX3_init_20 : decode cX3_init 20 = .ok (.aload_n 0, 1) := by decide +kernel
theorem dX3_init_21 : decode cX3_init 21 = .ok (.bipush 10, 2) := by decide +kernel
theorem dX3_init_23 : decode cX3_init 23 = .ok (.newarray .boolean, 2) := by decide +kernel
theorem dX3_init_25 : decode cX3_init 25 = .ok (.putfield 18, 3) := by decide +kernel
theorem dX3_init_28 : decode cX3_init 28 = .ok (.aload_n 0, 1) := by decide +kernel
theorem dX3_init_29 : decode cX3_init 29 = .ok (.sipush 256, 3) := by decide +kernel
theorem dX3_init_32 : decode cX3_init 32 = .ok (.newarray .boolean, 2) := by decide +kernel
theorem dX3_init_34 : decode cX3_init 34 = .ok (.putfield 22, 3) := by decide +kernel
theorem dX3_init_37 : decode cX3_init 37 = .ok (.aload_n 0, 1) := by decide +kernel
theorem dX3_init_38 : decode cX3_init 38 = .ok (.sipush 256, 3) := by decide +kernel
theorem dX3_init_41 : decode cX3_init 41 = .ok (.newarray .int, 2) := by decide +kernel
theorem dX3_init_43 : decode cX3_init 43 = .ok (.putfield 25, 3) := by decide +kernel
theorem dX3_init_46 : decode cX3_init 46 = .ok (.aload_n 0, 1) := by decide +kernel
theorem dX3_init_47 : decode cX3_init 47 = .ok (.iconst 0, 1) := by decide +kernel
theorem dX3_init_48 : decode cX3_init 48 = .ok (.putfield 28, 3) := by decide +kernel
theorem dX3_init_51 : decode cX3_init 51 = .ok (.return_, 1) := by decide +kernel
/-- the constructor of class 3 -/
theorem ct_X3 {D : va_G} {τ : gT} {Z : State → Prop} (c0 : Nat) (hb : ∀ h0 q7 q15 q23 q32 q41 : Nat, blk τ (fun d => [h0, q7, q15, q23, q32, q41].getD (d - c0) 0) c0 6 = [(h0, .inr (3, [.ref q7, .ref q15, .ref q23, .ref q32, .ref q41, .int 0])), (q7, .inl (τ.1, 10, .inl (fun _ => 0))), (q15, .inl (τ.1, 10, .inl (fun _ => 0))), (q23, .inl (τ.2.1, 10, .inl (fun _ => 0))), (q32, .inl (τ.2.1, 256, .inl (fun _ => 0))), (q41, .inl (τ.1, 256, .inl (fun _ => 0)))]) : Ct D τ Z mX3_init ({ frames := 1, cells := 5, slots := 542, locals := 60 }) 5 542 3 [.null, .null, .null, .null, .null, .int 0] c0 6 := by
  intro l h0 sz
  have hA : ∀ q, sz ≤ q → (va_A [(h0, .inr (3, [.null, .null, .null, .null, .null, .int 0]))] sz) q := fun q h => Or.inr h
  refine k_entry (n0 := 0) (L := [.ref h0]) (by decide +kernel) rfl rfl (by decide) rfl ?_ l
  refine k_aload dX3_init_0 rfl rfl ?_
  refine k_obj dX3_init_1 (tbG_t (List.mem_of_getElem? (i := 221) (by decide +kernel)) (by decide +kernel)) (by decide) (by decide) ?_
  refine k_aload dX3_init_4 rfl rfl ?_
  refine k_bipush (v := 10) dX3_init_5 rfl ?_
  refine k_newI (n := 10) hA dX3_init_7 (tbG_t (List.mem_of_getElem? (i := 71) (by decide +kernel)) (by decide +kernel)) (by decide) (by decide) (by decide) (fun q7 => ?_)
  refine k_putF (a := h0) (ci := 3) (k := 0) (q0 := 0) (N := 6) (C := RX3) (T := TX3) (ty := tyX3 0) (v := .ref q7) (ws' := [(h0, .inr (3, [.ref q7, .null, .null, .null, .null, .int 0])), (q7, .inl (τ.1, 10, .inl (fun _ => 0)))]) dX3_init_9 rfl rfl inG3 tyX3 tyX3_ok nmX3 (by decide) (tbG_t (List.mem_of_getElem? (i := 222) (by decide +kernel)) (by decide +kernel)) rfl rfl (tyX3_ok 0 (by decide)) rfl rfl (Nat.le_of_ble_eq_true rfl) rfl ?_
  refine k_aload dX3_init_12 rfl rfl ?_
  refine k_bipush (v := 10) dX3_init_13 rfl ?_
  refine k_newI (n := 10) hA dX3_init_15 (tbG_t (List.mem_of_getElem? (i := 71) (by decide +kernel)) (by decide +kernel)) (by decide) (by decide) (by decide) (fun q15 => ?_)
  refine k_putF (a := h0) (ci := 3) (k := 1) (q0 := 0) (N := 6) (C := RX3) (T := TX3) (ty := tyX3 1) (v := .ref q15) (ws' := [(h0, .inr (3, [.ref q7, .ref q15, .null, .null, .null, .int 0])), (q7, .inl (τ.1, 10, .inl (fun _ => 0))), (q15, .inl (τ.1, 10, .inl (fun _ => 0)))]) dX3_init_17 rfl rfl inG3 tyX3 tyX3_ok nmX3 (by decide) (tbG_t (List.mem_of_getElem? (i := 223) (by decide +kernel)) (by decide +kernel)) rfl rfl (tyX3_ok 1 (by decide)) rfl rfl (Nat.le_of_ble_eq_true rfl) rfl ?_
  refine k_aload dX3_init_20 rfl rfl ?_
  refine k_bipush (v := 10) dX3_init_21 rfl ?_
  refine k_newZ (n := 10) hA dX3_init_23 (tbG_t (List.mem_of_getElem? (i := 168) (by decide +kernel)) (by decide +kernel)) (by decide) (by decide) (by decide) (fun q23 => ?_)
  refine k_putF (a := h0) (ci := 3) (k := 2) (q0 := 0) (N := 6) (C := RX3) (T := TX3) (ty := tyX3 2) (v := .ref q23) (ws' := [(h0, .inr (3, [.ref q7, .ref q15, .ref q23, .null, .null, .int 0])), (q7, .inl (τ.1, 10, .inl (fun _ => 0))), (q15, .inl (τ.1, 10, .inl (fun _ => 0))), (q23, .inl (τ.2.1, 10, .inl (fun _ => 0)))]) dX3_init_25 rfl rfl inG3 tyX3 tyX3_ok nmX3 (by decide) (tbG_t (List.mem_of_getElem? (i := 224) (by decide +kernel)) (by decide +kernel)) rfl rfl (tyX3_ok 2 (by decide)) rfl rfl (Nat.le_of_ble_eq_true rfl) rfl ?_
  refine k_aload dX3_init_28 rfl rfl ?_
  refine k_sipush (v := 256) dX3_init_29 rfl ?_
  refine k_newZ (n := 256) hA dX3_init_32 (tbG_t (List.mem_of_getElem? (i := 168) (by decide +kernel)) (by decide +kernel)) (by decide) (by decide) (by decide) (fun q32 => ?_)
  refine k_putF (a := h0) (ci := 3) (k := 3) (q0 := 0) (N := 6) (C := RX3) (T := TX3) (ty := tyX3 3) (v := .ref q32) (ws' := [(h0, .inr (3, [.ref q7, .ref q15, .ref q23, .ref q32, .null, .int 0])), (q7, .inl (τ.1, 10, .inl (fun _ => 0))), (q15, .inl (τ.1, 10, .inl (fun _ => 0))), (q23, .inl (τ.2.1, 10, .inl (fun _ => 0))), (q32, .inl (τ.2.1, 256, .inl (fun _ => 0)))]) dX3_init_34 rfl rfl inG3 tyX3 tyX3_ok nmX3 (by decide) (tbG_t (List.mem_of_getElem? (i := 225) (by decide +kernel)) (by decide +kernel)) rfl rfl (tyX3_ok 3 (by decide)) rfl rfl (Nat.le_of_ble_eq_true rfl) rfl ?_
  refine k_aload dX3_init_37 rfl rfl ?_
  refine k_sipush (v := 256) dX3_init_38 rfl ?_
  refine k_newI (n := 256) hA dX3_init_41 (tbG_t (List.mem_of_getElem? (i := 71) (by decide +kernel)) (by decide +kernel)) (by decide) (by decide) (by decide) (fun q41 => ?_)
  refine k_putF (a := h0) (ci := 3) (k := 4) (q0 := 0) (N := 6) (C := RX3) (T := TX3) (ty := tyX3 4) (v := .ref q41) (ws' := [(h0, .inr (3, [.ref q7, .ref q15, .ref q23, .ref q32, .ref q41, .int 0])), (q7, .inl (τ.1, 10, .inl (fun _ => 0))), (q15, .inl (τ.1, 10, .inl (fun _ => 0))), (q23, .inl (τ.2.1, 10, .inl (fun _ => 0))), (q32, .inl (τ.2.1, 256, .inl (fun _ => 0))), (q41, .inl (τ.1, 256, .inl (fun _ => 0)))]) dX3_init_43 rfl rfl inG3 tyX3 tyX3_ok nmX3 (by decide) (tbG_t (List.mem_of_getElem? (i := 226) (by decide +kernel)) (by decide +kernel)) rfl rfl (tyX3_ok 4 (by decide)) rfl rfl (Nat.le_of_ble_eq_true rfl) rfl ?_
  refine k_aload dX3_init_46 rfl rfl ?_
  refine k_iconst (v := 0) dX3_init_47 rfl ?_
  refine k_put (a := h0) (ci := 3) (k := 5) (q0 := 0) (N := 6) (C := RX3) (T := TX3) (ty := tyX3 5) (v := .int 0) (ws' := [(h0, .inr (3, [.ref q7, .ref q15, .ref q23, .ref q32, .ref q41, .int 0])), (q7, .inl (τ.1, 10, .inl (fun _ => 0))), (q15, .inl (τ.1, 10, .inl (fun _ => 0))), (q23, .inl (τ.2.1, 10, .inl (fun _ => 0))), (q32, .inl (τ.2.1, 256, .inl (fun _ => 0))), (q41, .inl (τ.1, 256, .inl (fun _ => 0)))]) dX3_init_48 rfl rfl inG3 tyX3 tyX3_ok nmX3 (by decide) (tbG_t (List.mem_of_getElem? (i := 227) (by decide +kernel)) (by decide +kernel)) rfl (tyX3_ok 5 (by decide)) rfl rfl (Nat.le_of_ble_eq_true rfl) rfl ?_
  exact k_vret dX3_init_51 rfl rfl (fun t hK hP hD => by rw [← hb h0 q7 q15 q23 q32 q41] at hP hD; exact ⟨_, by simp, hK, hP, hD⟩)
theorem dX0_init_0 : decode cX0_init 0 = .ok (.aload_n 0, 1) := by decide +kernel
theorem dX0_init_1 : decode cX0_init 1 = .ok (.invokespecial 3, 3) := by decide +kernel
theorem dX0_init_4 : decode cX0_init 4 = .ok (.aload_n 0, 1) := by decide +kernel
theorem dX0_init_5 : decode cX0_init 5 = .ok (.bipush 15, 2) := by decide +kernel
theorem dX0_init_7 : decode cX0_init 7 = .ok (.newarray .int, 2) := by decide +kernel
theorem dX0_init_9 : decode cX0_init 9 = .ok (.putfield 9, 3) := by decide +kernel
theorem dX0_init_12 : decode cX0_init 12 = .ok (.aload_n 0, 1) := by decide +kernel
theorem dX0_init_13 : decode cX0_init 13 = .ok (.bipush 15, 2) := by decide +kernel
theorem dX0_init_15 : decode cX0_init 15 = .ok (.newarray .int, 2) := by decide +kernel
theorem dX0_init_17 : decode cX0_init 17 = .ok (.putfield 15, 3) := by decide +kernel
theorem dX0_init_20 : decode cX0_init 20 = .ok (.aload_n 0, 1) := by decide +kernel
theorem dX0_init_21 : decode cX0_init 21 = .ok (.bipush 15, 2) := by decide +kernel
theorem dX0_init_23 : decode cX0_init 23 = .ok (.newarray .boolean, 2) := by decide +kernel
theorem dX0_init_25 : decode cX0_init 25 = .ok (.putfield 18, 3) := by decide +kernel
theorem dX0_init_28 : decode cX0_init 28 = .ok (.aload_n 0, 1) := by decide +kernel
theorem dX0_init_29 : decode cX0_init 29 = .ok (.iconst 0, 1) := by decide +kernel
theorem dX0_init_30 : decode cX0_init 30 = .ok (.putfield 22, 3) := by decide +kernel
theorem dX0_init_33 : decode cX0_init 33 = .ok (.return_, 1) := by decide +kernel
/-- the constructor of class 0 -/
theorem ct_X0 {D : va_G} {τ : gT} {Z : State → Prop} (c0 : Nat) (hb : ∀ h0 q7 q15 q23 : Nat, blk τ (fun d => [h0, q7, q15, q23].getD (d - c0) 0) c0 4 = [(h0, .inr (0, [.ref q7, .ref q15, .ref q23, .int 0])), (q7, .inl (τ.1, 15, .inl (fun _ => 0))), (q15, .inl (τ.1, 15, .inl (fun _ => 0))), (q23, .inl (τ.2.1, 15, .inl (fun _ => 0)))]) : Ct D τ Z mX0_init ({ frames := 1, cells := 3, slots := 45, locals := 60 }) 3 45 0 [.null, .null, .null, .int 0] c0 4 := by
  intro l h0 sz
  have hA : ∀ q, sz ≤ q → (va_A [(h0, .inr (0, [.null, .null, .null, .int 0]))] sz) q := fun q h => Or.inr h
  refine k_entry (n0 := 0) (L := [.ref h0]) (by decide +kernel) rfl rfl (by decide) rfl ?_ l
  refine k_aload dX0_init_0 rfl rfl ?_
  refine k_obj dX0_init_1 (tbG_t (List.mem_of_getElem? (i := 247) (by decide +kernel)) (by decide +kernel)) (by decide) (by decide) ?_
  refine k_aload dX0_init_4 rfl rfl ?_
  refine k_bipush (v := 15) dX0_init_5 rfl ?_
  refine k_newI (n := 15) hA dX0_init_7 (tbG_t (List.mem_of_getElem? (i := 71) (by decide +kernel)) (by decide +kernel)) (by decide) (by decide) (by decide) (fun q7 => ?_)
  refine k_putF (a := h0) (ci := 0) (k := 0) (q0 := 0) (N := 4) (C := RX0) (T := TX0) (ty := tyX0 0) (v := .ref q7) (ws' := [(h0, .inr (0, [.ref q7, .null, .null, .int 0])), (q7, .inl (τ.1, 15, .inl (fun _ => 0)))]) dX0_init_9 rfl rfl inG0 tyX0 tyX0_ok nmX0 (by decide) (tbG_t (List.mem_of_getElem? (i := 248) (by decide +kernel)) (by decide +kernel)) rfl rfl (tyX0_ok 0 (by decide)) rfl rfl (Nat.le_of_ble_eq_true rfl) rfl ?_
  refine k_aload dX0_init_12 rfl rfl ?_
  refine k_bipush (v := 15) dX0_init_13 rfl ?_
  refine k_newI (n := 15) hA dX0_init_15 (tbG_t (List.mem_of_getElem? (i := 71) (by decide +kernel)) (by decide +kernel)) (by decide) (by decide) (by decide) (fun q15 => ?_)
  refine k_putF (a := h0) (ci := 0) (k := 1) (q0 := 0) (N := 4) (C := RX0) (T := TX0) (ty := tyX0 1) (v := .ref q15) (ws' := [(h0, .inr (0, [.ref q7, .ref q15, .null, .int 0])), (q7, .inl (τ.1, 15, .inl (fun _ => 0))), (q15, .inl (τ.1, 15, .inl (fun _ => 0)))]) dX0_init_17 rfl rfl inG0 tyX0 tyX0_ok nmX0 (by decide) (tbG_t (List.mem_of_getElem? (i := 249) (by decide +kernel)) (by decide +kernel)) rfl rfl (tyX0_ok 1 (by decide)) rfl rfl (Nat.le_of_ble_eq_true rfl) rfl ?_
  refine k_aload dX0_init_20 rfl rfl ?_
  refine k_bipush (v := 15) dX0_init_21 rfl ?_
  refine k_newZ (n := 15) hA dX0_init_23 (tbG_t (List.mem_of_getElem? (i := 168) (by decide +kernel)) (by decide +kernel)) (by decide) (by decide) (by decide) (fun q23 => ?_)
  refine k_putF (a := h0) (ci := 0) (k := 2) (q0 := 0) (N := 4) (C := RX0) (T := TX0) (ty := tyX0 2) (v := .ref q23) (ws' := [(h0, .inr (0, [.ref q7, .ref q15, .ref q23, .int 0])), (q7, .inl (τ.1, 15, .inl (fun _ => 0))), (q15, .inl (τ.1, 15, .inl (fun _ => 0))), (q23, .inl (τ.2.1, 15, .inl (fun _ => 0)))]) dX0_init_25 rfl rfl inG0 tyX0 tyX0_ok nmX0 (by decide) (tbG_t (List.mem_of_getElem? (i := 250) (by decide +kernel)) (by decide +kernel)) rfl rfl (tyX0_ok 2 (by decide)) rfl rfl (Nat.le_of_ble_eq_true rfl) rfl ?_
  refine k_aload dX0_init_28 rfl rfl ?_
  refine k_iconst (v := 0) dX0_init_29 rfl ?_
  refine k_put (a := h0) (ci := 0) (k := 3) (q0 := 0) (N := 4) (C := RX0) (T := TX0) (ty := tyX0 3) (v := .int 0) (ws' := [(h0, .inr (0, [.ref q7, .ref q15, .ref q23, .int 0])), (q7, .inl (τ.1, 15, .inl (fun _ => 0))), (q15, .inl (τ.1, 15, .inl (fun _ => 0))), (q23, .inl (τ.2.1, 15, .inl (fun _ => 0)))]) dX0_init_30 rfl rfl inG0 tyX0 tyX0_ok nmX0 (by decide) (tbG_t (List.mem_of_getElem? (i := 251) (by decide +kernel)) (by decide +kernel)) rfl (tyX0_ok 3 (by decide)) rfl rfl (Nat.le_of_ble_eq_true rfl) rfl ?_
  exact k_vret dX0_init_33 rfl rfl (fun t hK hP hD => by rw [← hb h0 q7 q15 q23] at hP hD; exact ⟨_, by simp, hK, hP, hD⟩)
end Make4
