section Make4
theorem dX8_init_0 : decode cX8_init 0 = .ok (.aload_n 0, 1) := by decide +kernel
theorem dX8_init_1 : decode cX8_init 1 = .ok (.invokespecial 3, 3) := by decide +kernel
theorem dX8_init_4 : decode cX8_init 4 = .ok (.aload_n 0, 1) := by decide +kernel
theorem dX8_init_5 : decode cX8_init 5 = .ok (.bipush 8, 2) := by decide +kernel
theorem dX8_init_7 : decode cX8_init 7 = .ok (.newarray .int, 2) := by decide +kernel
theorem dX8_init_9 : decode cX8_init 9 = .ok (.putfield 9, 3) := by decide +kernel
theorem dX8_init_12 : decode cX8_init 12 = .ok (.aload_n 0, 1) := by decide +kernel
theorem dX8_init_13 : decode cX8_init 13 = .ok (.bipush 8, 2) := by decide +kernel
theorem dX8_init_15 : decode cX8_init 15 = .ok (.newarray .int, 2) := by decide +kernel
theorem dX8_init_17 : decode cX8_init 17 = .ok (.putfield 15, 3) := by decide +kernel
theorem dX8_init_20 : decode cX8_init 20 = .ok (.aload_n 0, 1) := by decide +kernel
theorem dX8_init_21 : decode cX8_init 21 = .ok (.bipush 8, 2) := by decide +kernel
theorem dX8_init_23 : decode cX8_init 23 = .ok (.newarray .int, 2) := by decide +kernel
theorem dX8_init_25 : decode cX8_init 25 = .ok (.putfield 18, 3) := by decide +kernel
theorem dX8_init_28 : decode cX8_init 28 = .ok (.aload_n 0, 1) := by decide +kernel
theorem dX8_init_29 : decode cX8_init 29 = .ok (.iconst 0, 1) := by decide +kernel
theorem dX8_init_30 : decode cX8_init 30 = .ok (.putfield 21, 3) := by decide +kernel
theorem dX8_init_33 : decode cX8_init 33 = .ok (.aload_n 0, 1) := by decide +kernel
theorem dX8_init_34 : decode cX8_init 34 = .ok (.iconst 0, 1) := by decide +kernel
theorem dX8_init_35 : decode cX8_init 35 = .ok (.putfield 25, 3) := by decide +kernel
theorem dX8_init_38 : decode cX8_init 38 = .ok (.return_, 1) := by decide +kernel
/-- what the constructor of class 8 leaves -/
def PbX8 (D : va_G) (tys : List (ClassId × FieldType)) (h0 sz : Nat) (t : State) : Prop := ∃ (q7 : Nat) (c7 : ClassId) (q15 : Nat) (c15 : ClassId) (q23 : Nat) (c23 : ClassId), va_K D classes (tys ++ [(c7, .int)] ++ [(c15, .int)] ++ [(c23, .int)]) t ∧ va_P D classes [(h0, .inr (8, [.ref q7, .ref q15, .ref q23, .int 0, .int 0])), (q7, .inl (c7, 8, .inl (fun _ => 0))), (q15, .inl (c15, 8, .inl (fun _ => 0))), (q23, .inl (c23, 8, .inl (fun _ => 0)))] t.heap ∧ va_D (va_A [(h0, .inr (8, [.null, .null, .null, .int 0, .int 0]))] sz) [(h0, .inr (8, [.ref q7, .ref q15, .ref q23, .int 0, .int 0])), (q7, .inl (c7, 8, .inl (fun _ => 0))), (q15, .inl (c15, 8, .inl (fun _ => 0))), (q23, .inl (c23, 8, .inl (fun _ => 0)))]
theorem ct_X8 {D : va_G} {sz h0 : Nat} {Z : State → Prop} {tys : List (ClassId × FieldType)} (l : Launch) : Met l mX8_init.1 (wsM mX8_init) ({ frames := 1, cells := 3, slots := 24, locals := 60 }) (va_Pc [.ref h0] (fun U => U.heap.size = sz ∧ va_P D classes [(h0, .inr (8, [.null, .null, .null, .int 0, .int 0]))] U.heap ∧ va_K D classes tys U ∧ va_D (fun _ => True) [(h0, .inr (8, [.null, .null, .null, .int 0, .int 0]))] ∧ Z U)) (va_Qv (fun _ : Unit => True) (fun _ t => PbX8 D tys h0 sz t) (va_A [(h0, .inr (8, [.null, .null, .null, .int 0, .int 0]))] sz)) 3 24 (va_A [(h0, .inr (8, [.null, .null, .null, .int 0, .int 0]))] sz) := by
  have hA : ∀ q, sz ≤ q → (va_A [(h0, .inr (8, [.null, .null, .null, .int 0, .int 0]))] sz) q := fun q h => Or.inr h
  refine k_entry (n0 := 0) (L := [.ref h0]) (by decide +kernel) rfl rfl (by decide) rfl ?_ l
  refine k_aload dX8_init_0 rfl rfl ?_
  refine k_obj dX8_init_1 (tbG_t (List.mem_of_getElem? (i := 101) (by decide +kernel)) (by decide +kernel)) (by decide) (by decide) ?_
  refine k_aload dX8_init_4 rfl rfl ?_
  refine k_bipush (v := 8) dX8_init_5 rfl ?_
  refine k_newi (n := 8) hA dX8_init_7 (tbG_t (List.mem_of_getElem? (i := 71) (by decide +kernel)) (by decide +kernel)) (by decide) (by decide) (by decide) (fun q7 c7 => ?_)
  refine k_putF (a := h0) (ci := 8) (k := 0) (q0 := 0) (N := 5) (C := RX8) (T := TX8) (ty := tyX8 0) (v := .ref q7) (ws' := [(h0, .inr (8, [.ref q7, .null, .null, .int 0, .int 0])), (q7, .inl (c7, 8, .inl (fun _ => 0)))]) dX8_init_9 rfl rfl inG8 tyX8 tyX8_ok nmX8 (by decide) (tbG_t (List.mem_of_getElem? (i := 102) (by decide +kernel)) (by decide +kernel)) rfl rfl (tyX8_ok 0 (by decide)) rfl rfl (Nat.le_of_ble_eq_true rfl) rfl ?_
  refine k_aload dX8_init_12 rfl rfl ?_
  refine k_bipush (v := 8) dX8_init_13 rfl ?_
  refine k_newi (n := 8) hA dX8_init_15 (tbG_t (List.mem_of_getElem? (i := 71) (by decide +kernel)) (by decide +kernel)) (by decide) (by decide) (by decide) (fun q15 c15 => ?_)
  refine k_putF (a := h0) (ci := 8) (k := 1) (q0 := 0) (N := 5) (C := RX8) (T := TX8) (ty := tyX8 1) (v := .ref q15) (ws' := [(h0, .inr (8, [.ref q7, .ref q15, .null, .int 0, .int 0])), (q7, .inl (c7, 8, .inl (fun _ => 0))), (q15, .inl (c15, 8, .inl (fun _ => 0)))]) dX8_init_17 rfl rfl inG8 tyX8 tyX8_ok nmX8 (by decide) (tbG_t (List.mem_of_getElem? (i := 106) (by decide +kernel)) (by decide +kernel)) rfl rfl (tyX8_ok 1 (by decide)) rfl rfl (Nat.le_of_ble_eq_true rfl) rfl ?_
  refine k_aload dX8_init_20 rfl rfl ?_
  refine k_bipush (v := 8) dX8_init_21 rfl ?_
  refine k_newi (n := 8) hA dX8_init_23 (tbG_t (List.mem_of_getElem? (i := 71) (by decide +kernel)) (by decide +kernel)) (by decide) (by decide) (by decide) (fun q23 c23 => ?_)
  refine k_putF (a := h0) (ci := 8) (k := 2) (q0 := 0) (N := 5) (C := RX8) (T := TX8) (ty := tyX8 2) (v := .ref q23) (ws' := [(h0, .inr (8, [.ref q7, .ref q15, .ref q23, .int 0, .int 0])), (q7, .inl (c7, 8, .inl (fun _ => 0))), (q15, .inl (c15, 8, .inl (fun _ => 0))), (q23, .inl (c23, 8, .inl (fun _ => 0)))]) dX8_init_25 rfl rfl inG8 tyX8 tyX8_ok nmX8 (by decide) (tbG_t (List.mem_of_getElem? (i := 109) (by decide +kernel)) (by decide +kernel)) rfl rfl (tyX8_ok 2 (by decide)) rfl rfl (Nat.le_of_ble_eq_true rfl) rfl ?_
  refine k_aload dX8_init_28 rfl rfl ?_
  refine k_iconst (v := 0) dX8_init_29 rfl ?_
  refine k_put (a := h0) (ci := 8) (k := 3) (q0 := 0) (N := 5) (C := RX8) (T := TX8) (ty := tyX8 3) (v := .int 0) (ws' := [(h0, .inr (8, [.ref q7, .ref q15, .ref q23, .int 0, .int 0])), (q7, .inl (c7, 8, .inl (fun _ => 0))), (q15, .inl (c15, 8, .inl (fun _ => 0))), (q23, .inl (c23, 8, .inl (fun _ => 0)))]) dX8_init_30 rfl rfl inG8 tyX8 tyX8_ok nmX8 (by decide) (tbG_t (List.mem_of_getElem? (i := 111) (by decide +kernel)) (by decide +kernel)) rfl (tyX8_ok 3 (by decide)) rfl rfl (Nat.le_of_ble_eq_true rfl) rfl ?_
  refine k_aload dX8_init_33 rfl rfl ?_
  refine k_iconst (v := 0) dX8_init_34 rfl ?_
  refine k_put (a := h0) (ci := 8) (k := 4) (q0 := 0) (N := 5) (C := RX8) (T := TX8) (ty := tyX8 4) (v := .int 0) (ws' := [(h0, .inr (8, [.ref q7, .ref q15, .ref q23, .int 0, .int 0])), (q7, .inl (c7, 8, .inl (fun _ => 0))), (q15, .inl (c15, 8, .inl (fun _ => 0))), (q23, .inl (c23, 8, .inl (fun _ => 0)))]) dX8_init_35 rfl rfl inG8 tyX8 tyX8_ok nmX8 (by decide) (tbG_t (List.mem_of_getElem? (i := 114) (by decide +kernel)) (by decide +kernel)) rfl (tyX8_ok 4 (by decide)) rfl rfl (Nat.le_of_ble_eq_true rfl) rfl ?_
  exact k_vret dX8_init_38 rfl rfl (fun t hK hP hD => ⟨q7, c7, q15, c15, q23, c23, hK, hP, hD⟩)
end Make4
