section Make5
theorem dX11_init_0 : decode cX11_init 0 = .ok (.aload_n 0, 1) := by decide +kernel
theorem dX11_init_1 : decode cX11_init 1 = .ok (.invokespecial 1, 3) := by decide +kernel
theorem dX11_init_4 : decode cX11_init 4 = .ok (.aload_n 0, 1) := by decide +kernel
theorem dX11_init_5 : decode cX11_init 5 = .ok (.bipush 8, 2) := by decide +kernel
theorem dX11_init_7 : decode cX11_init 7 = .ok (.newarray .int, 2) := by decide +kernel
theorem dX11_init_9 : decode cX11_init 9 = .ok (.putfield 7, 3) := by decide +kernel
theorem dX11_init_12 : decode cX11_init 12 = .ok (.aload_n 0, 1) := by decide +kernel
theorem dX11_init_13 : decode cX11_init 13 = .ok (.bipush 12, 2) := by decide +kernel
theorem dX11_init_15 : decode cX11_init 15 = .ok (.newarray .int, 2) := by decide +kernel
theorem dX11_init_17 : decode cX11_init 17 = .ok (.putfield 13, 3) := by decide +kernel
theorem dX11_init_20 : decode cX11_init 20 = .ok (.aload_n 0, 1) := by decide +kernel
theorem dX11_init_21 : decode cX11_init 21 = .ok (.bipush 26, 2) := by decide +kernel
theorem dX11_init_23 : decode cX11_init 23 = .ok (.newarray .int, 2) := by decide +kernel
theorem dX11_init_25 : decode cX11_init 25 = .ok (.putfield 16, 3) := by decide +kernel
theorem dX11_init_28 : decode cX11_init 28 = .ok (.aload_n 0, 1) := by decide +kernel
theorem dX11_init_29 : decode cX11_init 29 = .ok (.sipush 240, 3) := by decide +kernel
theorem dX11_init_32 : decode cX11_init 32 = .ok (.newarray .int, 2) := by decide +kernel
theorem dX11_init_34 : decode cX11_init 34 = .ok (.putfield 19, 3) := by decide +kernel
theorem dX11_init_37 : decode cX11_init 37 = .ok (.aload_n 0, 1) := by decide +kernel
theorem dX11_init_38 : decode cX11_init 38 = .ok (.iconst (-1), 1) := by decide +kernel
theorem dX11_init_39 : decode cX11_init 39 = .ok (.putfield 22, 3) := by decide +kernel
theorem dX11_init_42 : decode cX11_init 42 = .ok (.aload_n 0, 1) := by decide +kernel
theorem dX11_init_43 : decode cX11_init 43 = .ok (.bipush 24, 2) := by decide +kernel
theorem dX11_init_45 : decode cX11_init 45 = .ok (.newarray .int, 2) := by decide +kernel
theorem dX11_init_47 : decode cX11_init 47 = .ok (.putfield 26, 3) := by decide +kernel
theorem dX11_init_50 : decode cX11_init 50 = .ok (.aload_n 0, 1) := by decide +kernel
theorem dX11_init_51 : decode cX11_init 51 = .ok (.bipush 12, 2) := by decide +kernel
theorem dX11_init_53 : decode cX11_init 53 = .ok (.newarray .int, 2) := by decide +kernel
theorem dX11_init_55 : decode cX11_init 55 = .ok (.putfield 29, 3) := by decide +kernel
theorem dX11_init_58 : decode cX11_init 58 = .ok (.aload_n 0, 1) := by decide +kernel
theorem dX11_init_59 : decode cX11_init 59 = .ok (.sipush 416, 3) := by decide +kernel
theorem dX11_init_62 : decode cX11_init 62 = .ok (.newarray .int, 2) := by decide +kernel
theorem dX11_init_64 : decode cX11_init 64 = .ok (.putfield 32, 3) := by decide +kernel
theorem dX11_init_67 : decode cX11_init 67 = .ok (.aload_n 0, 1) := by decide +kernel
theorem dX11_init_68 : decode cX11_init 68 = .ok (.bipush 26, 2) := by decide +kernel
theorem dX11_init_70 : decode cX11_init 70 = .ok (.newarray .int, 2) := by decide +kernel
theorem dX11_init_72 : decode cX11_init 72 = .ok (.putfield 35, 3) := by decide +kernel
theorem dX11_init_75 : decode cX11_init 75 = .ok (.aload_n 0, 1) := by decide +kernel
theorem dX11_init_76 : decode cX11_init 76 = .ok (.sipush 2560, 3) := by decide +kernel
theorem dX11_init_79 : decode cX11_init 79 = .ok (.newarray .int, 2) := by decide +kernel
theorem dX11_init_81 : decode cX11_init 81 = .ok (.putfield 38, 3) := by decide +kernel
theorem dX11_init_84 : decode cX11_init 84 = .ok (.aload_n 0, 1) := by decide +kernel
theorem dX11_init_85 : decode cX11_init 85 = .ok (.bipush 12, 2) := by decide +kernel
theorem dX11_init_87 : decode cX11_init 87 = .ok (.newarray .int, 2) := by decide +kernel
theorem dX11_init_89 : decode cX11_init 89 = .ok (.putfield 41, 3) := by decide +kernel
theorem dX11_init_92 : decode cX11_init 92 = .ok (.aload_n 0, 1) := by decide +kernel
theorem dX11_init_93 : decode cX11_init 93 = .ok (.bipush 30, 2) := by decide +kernel
theorem dX11_init_95 : decode cX11_init 95 = .ok (.newarray .int, 2) := by decide +kernel
theorem dX11_init_97 : decode cX11_init 97 = .ok (.putfield 44, 3) := by decide +kernel
theorem dX11_init_100 : decode cX11_init 100 = .ok (.aload_n 0, 1) := by decide +kernel
theorem dX11_init_101 : decode cX11_init 101 = .ok (.bipush 8, 2) := by decide +kernel
theorem dX11_init_103 : decode cX11_init 103 = .ok (.newarray .int, 2) := by decide +kernel
theorem dX11_init_105 : decode cX11_init 105 = .ok (.putfield 47, 3) := by decide +kernel
theorem dX11_init_108 : decode cX11_init 108 = .ok (.aload_n 0, 1) := by decide +kernel
theorem dX11_init_109 : decode cX11_init 109 = .ok (.bipush 45, 2) := by decide +kernel
theorem dX11_init_111 : decode cX11_init 111 = .ok (.newarray .int, 2) := by decide +kernel
theorem dX11_init_113 : decode cX11_init 113 = .ok (.putfield 50, 3) := by decide +kernel
theorem dX11_init_116 : decode cX11_init 116 = .ok (.aload_n 0, 1) := by decide +kernel
theorem dX11_init_117 : decode cX11_init 117 = .ok (.bipush 54, 2) := by decide +kernel
theorem dX11_init_119 : decode cX11_init 119 = .ok (.newarray .int, 2) := by decide +kernel
theorem dX11_init_121 : decode cX11_init 121 = .ok (.putfield 53, 3) := by decide +kernel
theorem dX11_init_124 : decode cX11_init 124 = .ok (.aload_n 0, 1) := by decide +kernel
theorem dX11_init_125 : decode cX11_init 125 = .ok (.iconst 2, 1) := by decide +kernel
theorem dX11_init_126 : decode cX11_init 126 = .ok (.newarray .boolean, 2) := by decide +kernel
theorem dX11_init_128 : decode cX11_init 128 = .ok (.putfield 56, 3) := by decide +kernel
theorem dX11_init_131 : decode cX11_init 131 = .ok (.return_, 1) := by decide +kernel
/-- the constructor of class 11 -/
theorem ct_X11 {D : va_G} {τ : gT} {Z : State → Prop} (c0 : Nat) (hb : ∀ h0 q7 q15 q23 q32 q45 q53 q62 q70 q79 q87 q95 q103 q111 q119 q126 : Nat, blk τ (fun d => [h0, q7, q15, q23, q32, q45, q53, q62, q70, q79, q87, q95, q103, q111, q119, q126].getD (d - c0) 0) c0 16 = [(h0, .inr (11, [.int 0, .int 0, .int 0, .ref q7, .ref q15, .int 0, .ref q23, .ref q32, .int 0, .int (-1), .int 0, .int 0, .int 0, .int 0, .int 0, .ref q45, .ref q53, .int 0, .ref q62, .int 0, .int 0, .ref q70, .ref q79, .ref q87, .int 0, .ref q95, .int 0, .ref q103, .ref q111, .int 0, .ref q119, .ref q126])), (q7, .inl (τ.1, 8, .inl (fun _ => 0))), (q15, .inl (τ.1, 12, .inl (fun _ => 0))), (q23, .inl (τ.1, 26, .inl (fun _ => 0))), (q32, .inl (τ.1, 240, .inl (fun _ => 0))), (q45, .inl (τ.1, 24, .inl (fun _ => 0))), (q53, .inl (τ.1, 12, .inl (fun _ => 0))), (q62, .inl (τ.1, 416, .inl (fun _ => 0))), (q70, .inl (τ.1, 26, .inl (fun _ => 0))), (q79, .inl (τ.1, 2560, .inl (fun _ => 0))), (q87, .inl (τ.1, 12, .inl (fun _ => 0))), (q95, .inl (τ.1, 30, .inl (fun _ => 0))), (q103, .inl (τ.1, 8, .inl (fun _ => 0))), (q111, .inl (τ.1, 45, .inl (fun _ => 0))), (q119, .inl (τ.1, 54, .inl (fun _ => 0))), (q126, .inl (τ.2.1, 2, .inl (fun _ => 0)))]) : Ct D τ Z mX11_init ({ frames := 1, cells := 15, slots := 3475, locals := 60 }) 15 3475 11 [.int 0, .int 0, .int 0, .null, .null, .int 0, .null, .null, .int 0, .int 0, .int 0, .int 0, .int 0, .int 0, .int 0, .null, .null, .int 0, .null, .int 0, .int 0, .null, .null, .null, .int 0, .null, .int 0, .null, .null, .int 0, .null, .null] c0 16 := by
  intro l h0 sz
  have hA : ∀ q, sz ≤ q → (va_A [(h0, .inr (11, [.int 0, .int 0, .int 0, .null, .null, .int 0, .null, .null, .int 0, .int 0, .int 0, .int 0, .int 0, .int 0, .int 0, .null, .null, .int 0, .null, .int 0, .int 0, .null, .null, .null, .int 0, .null, .int 0, .null, .null, .int 0, .null, .null]))] sz) q := fun q h => Or.inr h
  refine k_entry (n0 := 0) (L := [.ref h0]) (by decide +kernel) rfl rfl (by decide) rfl ?_ l
  refine k_aload dX11_init_0 rfl rfl ?_
  refine k_obj dX11_init_1 (tbG_t (List.mem_of_getElem? (i := 767) (by decide +kernel)) (by decide +kernel)) (by decide) (by decide) ?_
  refine k_aload dX11_init_4 rfl rfl ?_
  refine k_bipush (v := 8) dX11_init_5 rfl ?_
  refine k_newI (n := 8) hA dX11_init_7 (tbG_t (List.mem_of_getElem? (i := 71) (by decide +kernel)) (by decide +kernel)) (by decide) (by decide) (by decide) (fun q7 => ?_)
  refine k_putF (a := h0) (ci := 11) (k := 3) (q0 := 0) (N := 32) (C := RX11) (T := TX11) (ty := tyX11 3) (v := .ref q7) (ws' := [(h0, .inr (11, [.int 0, .int 0, .int 0, .ref q7, .null, .int 0, .null, .null, .int 0, .int 0, .int 0, .int 0, .int 0, .int 0, .int 0, .null, .null, .int 0, .null, .int 0, .int 0, .null, .null, .null, .int 0, .null, .int 0, .null, .null, .int 0, .null, .null])), (q7, .inl (τ.1, 8, .inl (fun _ => 0)))]) dX11_init_9 rfl rfl inG11 tyX11 tyX11_ok nmX11 (by decide) (tbG_t (List.mem_of_getElem? (i := 771) (by decide +kernel)) (by decide +kernel)) rfl rfl (tyX11_ok 3 (by decide)) rfl rfl (Nat.le_of_ble_eq_true rfl) rfl ?_
  refine k_aload dX11_init_12 rfl rfl ?_
  refine k_bipush (v := 12) dX11_init_13 rfl ?_
  refine k_newI (n := 12) hA dX11_init_15 (tbG_t (List.mem_of_getElem? (i := 71) (by decide +kernel)) (by decide +kernel)) (by decide) (by decide) (by decide) (fun q15 => ?_)
  refine k_putF (a := h0) (ci := 11) (k := 4) (q0 := 0) (N := 32) (C := RX11) (T := TX11) (ty := tyX11 4) (v := .ref q15) (ws' := [(h0, .inr (11, [.int 0, .int 0, .int 0, .ref q7, .ref q15, .int 0, .null, .null, .int 0, .int 0, .int 0, .int 0, .int 0, .int 0, .int 0, .null, .null, .int 0, .null, .int 0, .int 0, .null, .null, .null, .int 0, .null, .int 0, .null, .null, .int 0, .null, .null])), (q7, .inl (τ.1, 8, .inl (fun _ => 0))), (q15, .inl (τ.1, 12, .inl (fun _ => 0)))]) dX11_init_17 rfl rfl inG11 tyX11 tyX11_ok nmX11 (by decide) (tbG_t (List.mem_of_getElem? (i := 772) (by decide +kernel)) (by decide +kernel)) rfl rfl (tyX11_ok 4 (by decide)) rfl rfl (Nat.le_of_ble_eq_true rfl) rfl ?_
  refine k_aload dX11_init_20 rfl rfl ?_
  refine k_bipush (v := 26) dX11_init_21 rfl ?_
  refine k_newI (n := 26) hA dX11_init_23 (tbG_t (List.mem_of_getElem? (i := 71) (by decide +kernel)) (by decide +kernel)) (by decide) (by decide) (by decide) (fun q23 => ?_)
  refine k_putF (a := h0) (ci := 11) (k := 6) (q0 := 0) (N := 32) (C := RX11) (T := TX11) (ty := tyX11 6) (v := .ref q23) (ws' := [(h0, .inr (11, [.int 0, .int 0, .int 0, .ref q7, .ref q15, .int 0, .ref q23, .null, .int 0, .int 0, .int 0, .int 0, .int 0, .int 0, .int 0, .null, .null, .int 0, .null, .int 0, .int 0, .null, .null, .null, .int 0, .null, .int 0, .null, .null, .int 0, .null, .null])), (q7, .inl (τ.1, 8, .inl (fun _ => 0))), (q15, .inl (τ.1, 12, .inl (fun _ => 0))), (q23, .inl (τ.1, 26, .inl (fun _ => 0)))]) dX11_init_25 rfl rfl inG11 tyX11 tyX11_ok nmX11 (by decide) (tbG_t (List.mem_of_getElem? (i := 774) (by decide +kernel)) (by decide +kernel)) rfl rfl (tyX11_ok 6 (by decide)) rfl rfl (Nat.le_of_ble_eq_true rfl) rfl ?_
  refine k_aload dX11_init_28 rfl rfl ?_
  refine k_sipush (v := 240) dX11_init_29 rfl ?_
  refine k_newI (n := 240) hA dX11_init_32 (tbG_t (List.mem_of_getElem? (i := 71) (by decide +kernel)) (by decide +kernel)) (by decide) (by decide) (by decide) (fun q32 => ?_)
  refine k_putF (a := h0) (ci := 11) (k := 7) (q0 := 0) (N := 32) (C := RX11) (T := TX11) (ty := tyX11 7) (v := .ref q32) (ws' := [(h0, .inr (11, [.int 0, .int 0, .int 0, .ref q7, .ref q15, .int 0, .ref q23, .ref q32, .int 0, .int 0, .int 0, .int 0, .int 0, .int 0, .int 0, .null, .null, .int 0, .null, .int 0, .int 0, .null, .null, .null, .int 0, .null, .int 0, .null, .null, .int 0, .null, .null])), (q7, .inl (τ.1, 8, .inl (fun _ => 0))), (q15, .inl (τ.1, 12, .inl (fun _ => 0))), (q23, .inl (τ.1, 26, .inl (fun _ => 0))), (q32, .inl (τ.1, 240, .inl (fun _ => 0)))]) dX11_init_34 rfl rfl inG11 tyX11 tyX11_ok nmX11 (by decide) (tbG_t (List.mem_of_getElem? (i := 775) (by decide +kernel)) (by decide +kernel)) rfl rfl (tyX11_ok 7 (by decide)) rfl rfl (Nat.le_of_ble_eq_true rfl) rfl ?_
  refine k_aload dX11_init_37 rfl rfl ?_
  refine k_iconst (v := (-1)) dX11_init_38 rfl ?_
  refine k_put (a := h0) (ci := 11) (k := 9) (q0 := 0) (N := 32) (C := RX11) (T := TX11) (ty := tyX11 9) (v := .int (-1)) (ws' := [(h0, .inr (11, [.int 0, .int 0, .int 0, .ref q7, .ref q15, .int 0, .ref q23, .ref q32, .int 0, .int (-1), .int 0, .int 0, .int 0, .int 0, .int 0, .null, .null, .int 0, .null, .int 0, .int 0, .null, .null, .null, .int 0, .null, .int 0, .null, .null, .int 0, .null, .null])), (q7, .inl (τ.1, 8, .inl (fun _ => 0))), (q15, .inl (τ.1, 12, .inl (fun _ => 0))), (q23, .inl (τ.1, 26, .inl (fun _ => 0))), (q32, .inl (τ.1, 240, .inl (fun _ => 0)))]) dX11_init_39 rfl rfl inG11 tyX11 tyX11_ok nmX11 (by decide) (tbG_t (List.mem_of_getElem? (i := 777) (by decide +kernel)) (by decide +kernel)) rfl (tyX11_ok 9 (by decide)) rfl rfl (Nat.le_of_ble_eq_true rfl) rfl ?_
  refine k_aload dX11_init_42 rfl rfl ?_
  refine k_bipush (v := 24) dX11_init_43 rfl ?_
  refine k_newI (n := 24) hA dX11_init_45 (tbG_t (List.mem_of_getElem? (i := 71) (by decide +kernel)) (by decide +kernel)) (by decide) (by decide) (by decide) (fun q45 => ?_)
  refine k_putF (a := h0) (ci := 11) (k := 15) (q0 := 0) (N := 32) (C := RX11) (T := TX11) (ty := tyX11 15) (v := .ref q45) (ws' := [(h0, .inr (11, [.int 0, .int 0, .int 0, .ref q7, .ref q15, .int 0, .ref q23, .ref q32, .int 0, .int (-1), .int 0, .int 0, .int 0, .int 0, .int 0, .ref q45, .null, .int 0, .null, .int 0, .int 0, .null, .null, .null, .int 0, .null, .int 0, .null, .null, .int 0, .null, .null])), (q7, .inl (τ.1, 8, .inl (fun _ => 0))), (q15, .inl (τ.1, 12, .inl (fun _ => 0))), (q23, .inl (τ.1, 26, .inl (fun _ => 0))), (q32, .inl (τ.1, 240, .inl (fun _ => 0))), (q45, .inl (τ.1, 24, .inl (fun _ => 0)))]) dX11_init_47 rfl rfl inG11 tyX11 tyX11_ok nmX11 (by decide) (tbG_t (List.mem_of_getElem? (i := 783) (by decide +kernel)) (by decide +kernel)) rfl rfl (tyX11_ok 15 (by decide)) rfl rfl (Nat.le_of_ble_eq_true rfl) rfl ?_
  refine k_aload dX11_init_50 rfl rfl ?_
  refine k_bipush (v := 12) dX11_init_51 rfl ?_
  refine k_newI (n := 12) hA dX11_init_53 (tbG_t (List.mem_of_getElem? (i := 71) (by decide +kernel)) (by decide +kernel)) (by decide) (by decide) (by decide) (fun q53 => ?_)
  refine k_putF (a := h0) (ci := 11) (k := 16) (q0 := 0) (N := 32) (C := RX11) (T := TX11) (ty := tyX11 16) (v := .ref q53) (ws' := [(h0, .inr (11, [.int 0, .int 0, .int 0, .ref q7, .ref q15, .int 0, .ref q23, .ref q32, .int 0, .int (-1), .int 0, .int 0, .int 0, .int 0, .int 0, .ref q45, .ref q53, .int 0, .null, .int 0, .int 0, .null, .null, .null, .int 0, .null, .int 0, .null, .null, .int 0, .null, .null])), (q7, .inl (τ.1, 8, .inl (fun _ => 0))), (q15, .inl (τ.1, 12, .inl (fun _ => 0))), (q23, .inl (τ.1, 26, .inl (fun _ => 0))), (q32, .inl (τ.1, 240, .inl (fun _ => 0))), (q45, .inl (τ.1, 24, .inl (fun _ => 0))), (q53, .inl (τ.1, 12, .inl (fun _ => 0)))]) dX11_init_55 rfl rfl inG11 tyX11 tyX11_ok nmX11 (by decide) (tbG_t (List.mem_of_getElem? (i := 784) (by decide +kernel)) (by decide +kernel)) rfl rfl (tyX11_ok 16 (by decide)) rfl rfl (Nat.le_of_ble_eq_true rfl) rfl ?_
  refine k_aload dX11_init_58 rfl rfl ?_
  refine k_sipush (v := 416) dX11_init_59 rfl ?_
  refine k_newI (n := 416) hA dX11_init_62 (tbG_t (List.mem_of_getElem? (i := 71) (by decide +kernel)) (by decide +kernel)) (by decide) (by decide) (by decide) (fun q62 => ?_)
  refine k_putF (a := h0) (ci := 11) (k := 18) (q0 := 0) (N := 32) (C := RX11) (T := TX11) (ty := tyX11 18) (v := .ref q62) (ws' := [(h0, .inr (11, [.int 0, .int 0, .int 0, .ref q7, .ref q15, .int 0, .ref q23, .ref q32, .int 0, .int (-1), .int 0, .int 0, .int 0, .int 0, .int 0, .ref q45, .ref q53, .int 0, .ref q62, .int 0, .int 0, .null, .null, .null, .int 0, .null, .int 0, .null, .null, .int 0, .null, .null])), (q7, .inl (τ.1, 8, .inl (fun _ => 0))), (q15, .inl (τ.1, 12, .inl (fun _ => 0))), (q23, .inl (τ.1, 26, .inl (fun _ => 0))), (q32, .inl (τ.1, 240, .inl (fun _ => 0))), (q45, .inl (τ.1, 24, .inl (fun _ => 0))), (q53, .inl (τ.1, 12, .inl (fun _ => 0))), (q62, .inl (τ.1, 416, .inl (fun _ => 0)))]) dX11_init_64 rfl rfl inG11 tyX11 tyX11_ok nmX11 (by decide) (tbG_t (List.mem_of_getElem? (i := 786) (by decide +kernel)) (by decide +kernel)) rfl rfl (tyX11_ok 18 (by decide)) rfl rfl (Nat.le_of_ble_eq_true rfl) rfl ?_
  refine k_aload dX11_init_67 rfl rfl ?_
  refine k_bipush (v := 26) dX11_init_68 rfl ?_
  refine k_newI (n := 26) hA dX11_init_70 (tbG_t (List.mem_of_getElem? (i := 71) (by decide +kernel)) (by decide +kernel)) (by decide) (by decide) (by decide) (fun q70 => ?_)
  refine k_putF (a := h0) (ci := 11) (k := 21) (q0 := 0) (N := 32) (C := RX11) (T := TX11) (ty := tyX11 21) (v := .ref q70) (ws' := [(h0, .inr (11, [.int 0, .int 0, .int 0, .ref q7, .ref q15, .int 0, .ref q23, .ref q32, .int 0, .int (-1), .int 0, .int 0, .int 0, .int 0, .int 0, .ref q45, .ref q53, .int 0, .ref q62, .int 0, .int 0, .ref q70, .null, .null, .int 0, .null, .int 0, .null, .null, .int 0, .null, .null])), (q7, .inl (τ.1, 8, .inl (fun _ => 0))), (q15, .inl (τ.1, 12, .inl (fun _ => 0))), (q23, .inl (τ.1, 26, .inl (fun _ => 0))), (q32, .inl (τ.1, 240, .inl (fun _ => 0))), (q45, .inl (τ.1, 24, .inl (fun _ => 0))), (q53, .inl (τ.1, 12, .inl (fun _ => 0))), (q62, .inl (τ.1, 416, .inl (fun _ => 0))), (q70, .inl (τ.1, 26, .inl (fun _ => 0)))]) dX11_init_72 rfl rfl inG11 tyX11 tyX11_ok nmX11 (by decide) (tbG_t (List.mem_of_getElem? (i := 789) (by decide +kernel)) (by decide +kernel)) rfl rfl (tyX11_ok 21 (by decide)) rfl rfl (Nat.le_of_ble_eq_true rfl) rfl ?_
  refine k_aload dX11_init_75 rfl rfl ?_
  refine k_sipush (v := 2560) dX11_init_76 rfl ?_
  refine k_newI (n := 2560) hA dX11_init_79 (tbG_t (List.mem_of_getElem? (i := 71) (by decide +kernel)) (by decide +kernel)) (by decide) (by decide) (by decide) (fun q79 => ?_)
  refine k_putF (a := h0) (ci := 11) (k := 22) (q0 := 0) (N := 32) (C := RX11) (T := TX11) (ty := tyX11 22) (v := .ref q79) (ws' := [(h0, .inr (11, [.int 0, .int 0, .int 0, .ref q7, .ref q15, .int 0, .ref q23, .ref q32, .int 0, .int (-1), .int 0, .int 0, .int 0, .int 0, .int 0, .ref q45, .ref q53, .int 0, .ref q62, .int 0, .int 0, .ref q70, .ref q79, .null, .int 0, .null, .int 0, .null, .null, .int 0, .null, .null])), (q7, .inl (τ.1, 8, .inl (fun _ => 0))), (q15, .inl (τ.1, 12, .inl (fun _ => 0))), (q23, .inl (τ.1, 26, .inl (fun _ => 0))), (q32, .inl (τ.1, 240, .inl (fun _ => 0))), (q45, .inl (τ.1, 24, .inl (fun _ => 0))), (q53, .inl (τ.1, 12, .inl (fun _ => 0))), (q62, .inl (τ.1, 416, .inl (fun _ => 0))), (q70, .inl (τ.1, 26, .inl (fun _ => 0))), (q79, .inl (τ.1, 2560, .inl (fun _ => 0)))]) dX11_init_81 rfl rfl inG11 tyX11 tyX11_ok nmX11 (by decide) (tbG_t (List.mem_of_getElem? (i := 790) (by decide +kernel)) (by decide +kernel)) rfl rfl (tyX11_ok 22 (by decide)) rfl rfl (Nat.le_of_ble_eq_true rfl) rfl ?_
  refine k_aload dX11_init_84 rfl rfl ?_
  refine k_bipush (v := 12) dX11_init_85 rfl ?_
  refine k_newI (n := 12) hA dX11_init_87 (tbG_t (List.mem_of_getElem? (i := 71) (by decide +kernel)) (by decide +kernel)) (by decide) (by decide) (by decide) (fun q87 => ?_)
  refine k_putF (a := h0) (ci := 11) (k := 23) (q0 := 0) (N := 32) (C := RX11) (T := TX11) (ty := tyX11 23) (v := .ref q87) (ws' := [(h0, .inr (11, [.int 0, .int 0, .int 0, .ref q7, .ref q15, .int 0, .ref q23, .ref q32, .int 0, .int (-1), .int 0, .int 0, .int 0, .int 0, .int 0, .ref q45, .ref q53, .int 0, .ref q62, .int 0, .int 0, .ref q70, .ref q79, .ref q87, .int 0, .null, .int 0, .null, .null, .int 0, .null, .null])), (q7, .inl (τ.1, 8, .inl (fun _ => 0))), (q15, .inl (τ.1, 12, .inl (fun _ => 0))), (q23, .inl (τ.1, 26, .inl (fun _ => 0))), (q32, .inl (τ.1, 240, .inl (fun _ => 0))), (q45, .inl (τ.1, 24, .inl (fun _ => 0))), (q53, .inl (τ.1, 12, .inl (fun _ => 0))), (q62, .inl (τ.1, 416, .inl (fun _ => 0))), (q70, .inl (τ.1, 26, .inl (fun _ => 0))), (q79, .inl (τ.1, 2560, .inl (fun _ => 0))), (q87, .inl (τ.1, 12, .inl (fun _ => 0)))]) dX11_init_89 rfl rfl inG11 tyX11 tyX11_ok nmX11 (by decide) (tbG_t (List.mem_of_getElem? (i := 791) (by decide +kernel)) (by decide +kernel)) rfl rfl (tyX11_ok 23 (by decide)) rfl rfl (Nat.le_of_ble_eq_true rfl) rfl ?_
  refine k_aload dX11_init_92 rfl rfl ?_
  refine k_bipush (v := 30) dX11_init_93 rfl ?_
  refine k_newI (n := 30) hA dX11_init_95 (tbG_t (List.mem_of_getElem? (i := 71) (by decide +kernel)) (by decide +kernel)) (by decide) (by decide) (by decide) (fun q95 => ?_)
  refine k_putF (a := h0) (ci := 11) (k := 25) (q0 := 0) (N := 32) (C := RX11) (T := TX11) (ty := tyX11 25) (v := .ref q95) (ws' := [(h0, .inr (11, [.int 0, .int 0, .int 0, .ref q7, .ref q15, .int 0, .ref q23, .ref q32, .int 0, .int (-1), .int 0, .int 0, .int 0, .int 0, .int 0, .ref q45, .ref q53, .int 0, .ref q62, .int 0, .int 0, .ref q70, .ref q79, .ref q87, .int 0, .ref q95, .int 0, .null, .null, .int 0, .null, .null])), (q7, .inl (τ.1, 8, .inl (fun _ => 0))), (q15, .inl (τ.1, 12, .inl (fun _ => 0))), (q23, .inl (τ.1, 26, .inl (fun _ => 0))), (q32, .inl (τ.1, 240, .inl (fun _ => 0))), (q45, .inl (τ.1, 24, .inl (fun _ => 0))), (q53, .inl (τ.1, 12, .inl (fun _ => 0))), (q62, .inl (τ.1, 416, .inl (fun _ => 0))), (q70, .inl (τ.1, 26, .inl (fun _ => 0))), (q79, .inl (τ.1, 2560, .inl (fun _ => 0))), (q87, .inl (τ.1, 12, .inl (fun _ => 0))), (q95, .inl (τ.1, 30, .inl (fun _ => 0)))]) dX11_init_97 rfl rfl inG11 tyX11 tyX11_ok nmX11 (by decide) (tbG_t (List.mem_of_getElem? (i := 793) (by decide +kernel)) (by decide +kernel)) rfl rfl (tyX11_ok 25 (by decide)) rfl rfl (Nat.le_of_ble_eq_true rfl) rfl ?_
  refine k_aload dX11_init_100 rfl rfl ?_
  refine k_bipush (v := 8) dX11_init_101 rfl ?_
  refine k_newI (n := 8) hA dX11_init_103 (tbG_t (List.mem_of_getElem? (i := 71) (by decide +kernel)) (by decide +kernel)) (by decide) (by decide) (by decide) (fun q103 => ?_)
  refine k_putF (a := h0) (ci := 11) (k := 27) (q0 := 0) (N := 32) (C := RX11) (T := TX11) (ty := tyX11 27) (v := .ref q103) (ws' := [(h0, .inr (11, [.int 0, .int 0, .int 0, .ref q7, .ref q15, .int 0, .ref q23, .ref q32, .int 0, .int (-1), .int 0, .int 0, .int 0, .int 0, .int 0, .ref q45, .ref q53, .int 0, .ref q62, .int 0, .int 0, .ref q70, .ref q79, .ref q87, .int 0, .ref q95, .int 0, .ref q103, .null, .int 0, .null, .null])), (q7, .inl (τ.1, 8, .inl (fun _ => 0))), (q15, .inl (τ.1, 12, .inl (fun _ => 0))), (q23, .inl (τ.1, 26, .inl (fun _ => 0))), (q32, .inl (τ.1, 240, .inl (fun _ => 0))), (q45, .inl (τ.1, 24, .inl (fun _ => 0))), (q53, .inl (τ.1, 12, .inl (fun _ => 0))), (q62, .inl (τ.1, 416, .inl (fun _ => 0))), (q70, .inl (τ.1, 26, .inl (fun _ => 0))), (q79, .inl (τ.1, 2560, .inl (fun _ => 0))), (q87, .inl (τ.1, 12, .inl (fun _ => 0))), (q95, .inl (τ.1, 30, .inl (fun _ => 0))), (q103, .inl (τ.1, 8, .inl (fun _ => 0)))]) dX11_init_105 rfl rfl inG11 tyX11 tyX11_ok nmX11 (by decide) (tbG_t (List.mem_of_getElem? (i := 795) (by decide +kernel)) (by decide +kernel)) rfl rfl (tyX11_ok 27 (by decide)) rfl rfl (Nat.le_of_ble_eq_true rfl) rfl ?_
  refine k_aload dX11_init_108 rfl rfl ?_
  refine k_bipush (v := 45) dX11_init_109 rfl ?_
  refine k_newI (n := 45) hA dX11_init_111 (tbG_t (List.mem_of_getElem? (i := 71) (by decide +kernel)) (by decide +kernel)) (by decide) (by decide) (by decide) (fun q111 => ?_)
  refine k_putF (a := h0) (ci := 11) (k := 28) (q0 := 0) (N := 32) (C := RX11) (T := TX11) (ty := tyX11 28) (v := .ref q111) (ws' := [(h0, .inr (11, [.int 0, .int 0, .int 0, .ref q7, .ref q15, .int 0, .ref q23, .ref q32, .int 0, .int (-1), .int 0, .int 0, .int 0, .int 0, .int 0, .ref q45, .ref q53, .int 0, .ref q62, .int 0, .int 0, .ref q70, .ref q79, .ref q87, .int 0, .ref q95, .int 0, .ref q103, .ref q111, .int 0, .null, .null])), (q7, .inl (τ.1, 8, .inl (fun _ => 0))), (q15, .inl (τ.1, 12, .inl (fun _ => 0))), (q23, .inl (τ.1, 26, .inl (fun _ => 0))), (q32, .inl (τ.1, 240, .inl (fun _ => 0))), (q45, .inl (τ.1, 24, .inl (fun _ => 0))), (q53, .inl (τ.1, 12, .inl (fun _ => 0))), (q62, .inl (τ.1, 416, .inl (fun _ => 0))), (q70, .inl (τ.1, 26, .inl (fun _ => 0))), (q79, .inl (τ.1, 2560, .inl (fun _ => 0))), (q87, .inl (τ.1, 12, .inl (fun _ => 0))), (q95, .inl (τ.1, 30, .inl (fun _ => 0))), (q103, .inl (τ.1, 8, .inl (fun _ => 0))), (q111, .inl (τ.1, 45, .inl (fun _ => 0)))]) dX11_init_113 rfl rfl inG11 tyX11 tyX11_ok nmX11 (by decide) (tbG_t (List.mem_of_getElem? (i := 796) (by decide +kernel)) (by decide +kernel)) rfl rfl (tyX11_ok 28 (by decide)) rfl rfl (Nat.le_of_ble_eq_true rfl) rfl ?_
  refine k_aload dX11_init_116 rfl rfl ?_
  refine k_bipush (v := 54) dX11_init_117 rfl ?_
  refine k_newI (n := 54) hA dX11_init_119 (tbG_t (List.mem_of_getElem? (i := 71) (by decide +kernel)) (by decide +kernel)) (by decide) (by decide) (by decide) (fun q119 => ?_)
  refine k_putF (a := h0) (ci := 11) (k := 30) (q0 := 0) (N := 32) (C := RX11) (T := TX11) (ty := tyX11 30) (v := .ref q119) (ws' := [(h0, .inr (11, [.int 0, .int 0, .int 0, .ref q7, .ref q15, .int 0, .ref q23, .ref q32, .int 0, .int (-1), .int 0, .int 0, .int 0, .int 0, .int 0, .ref q45, .ref q53, .int 0, .ref q62, .int 0, .int 0, .ref q70, .ref q79, .ref q87, .int 0, .ref q95, .int 0, .ref q103, .ref q111, .int 0, .ref q119, .null])), (q7, .inl (τ.1, 8, .inl (fun _ => 0))), (q15, .inl (τ.1, 12, .inl (fun _ => 0))), (q23, .inl (τ.1, 26, .inl (fun _ => 0))), (q32, .inl (τ.1, 240, .inl (fun _ => 0))), (q45, .inl (τ.1, 24, .inl (fun _ => 0))), (q53, .inl (τ.1, 12, .inl (fun _ => 0))), (q62, .inl (τ.1, 416, .inl (fun _ => 0))), (q70, .inl (τ.1, 26, .inl (fun _ => 0))), (q79, .inl (τ.1, 2560, .inl (fun _ => 0))), (q87, .inl (τ.1, 12, .inl (fun _ => 0))), (q95, .inl (τ.1, 30, .inl (fun _ => 0))), (q103, .inl (τ.1, 8, .inl (fun _ => 0))), (q111, .inl (τ.1, 45, .inl (fun _ => 0))), (q119, .inl (τ.1, 54, .inl (fun _ => 0)))]) dX11_init_121 rfl rfl inG11 tyX11 tyX11_ok nmX11 (by decide) (tbG_t (List.mem_of_getElem? (i := 798) (by decide +kernel)) (by decide +kernel)) rfl rfl (tyX11_ok 30 (by decide)) rfl rfl (Nat.le_of_ble_eq_true rfl) rfl ?_
  refine k_aload dX11_init_124 rfl rfl ?_
  refine k_iconst (v := 2) dX11_init_125 rfl ?_
  refine k_newZ (n := 2) hA dX11_init_126 (tbG_t (List.mem_of_getElem? (i := 168) (by decide +kernel)) (by decide +kernel)) (by decide) (by decide) (by decide) (fun q126 => ?_)
  refine k_putF (a := h0) (ci := 11) (k := 31) (q0 := 0) (N := 32) (C := RX11) (T := TX11) (ty := tyX11 31) (v := .ref q126) (ws' := [(h0, .inr (11, [.int 0, .int 0, .int 0, .ref q7, .ref q15, .int 0, .ref q23, .ref q32, .int 0, .int (-1), .int 0, .int 0, .int 0, .int 0, .int 0, .ref q45, .ref q53, .int 0, .ref q62, .int 0, .int 0, .ref q70, .ref q79, .ref q87, .int 0, .ref q95, .int 0, .ref q103, .ref q111, .int 0, .ref q119, .ref q126])), (q7, .inl (τ.1, 8, .inl (fun _ => 0))), (q15, .inl (τ.1, 12, .inl (fun _ => 0))), (q23, .inl (τ.1, 26, .inl (fun _ => 0))), (q32, .inl (τ.1, 240, .inl (fun _ => 0))), (q45, .inl (τ.1, 24, .inl (fun _ => 0))), (q53, .inl (τ.1, 12, .inl (fun _ => 0))), (q62, .inl (τ.1, 416, .inl (fun _ => 0))), (q70, .inl (τ.1, 26, .inl (fun _ => 0))), (q79, .inl (τ.1, 2560, .inl (fun _ => 0))), (q87, .inl (τ.1, 12, .inl (fun _ => 0))), (q95, .inl (τ.1, 30, .inl (fun _ => 0))), (q103, .inl (τ.1, 8, .inl (fun _ => 0))), (q111, .inl (τ.1, 45, .inl (fun _ => 0))), (q119, .inl (τ.1, 54, .inl (fun _ => 0))), (q126, .inl (τ.2.1, 2, .inl (fun _ => 0)))]) dX11_init_128 rfl rfl inG11 tyX11 tyX11_ok nmX11 (by decide) (tbG_t (List.mem_of_getElem? (i := 799) (by decide +kernel)) (by decide +kernel)) rfl rfl (tyX11_ok 31 (by decide)) rfl rfl (Nat.le_of_ble_eq_true rfl) rfl ?_
  exact k_vret dX11_init_131 rfl rfl (fun t hK hP hD => by rw [← hb h0 q7 q15 q23 q32 q45 q53 q62 q70 q79 q87 q95 q103 q111 q119 q126] at hP hD; exact ⟨_, by simp, hK, hP, hD⟩)
end Make5
