theorem dX10_drift_0 : decode cX10_drift 0 = .ok (.aload_n 0, 1) := by decide +kernel
theorem dX10_drift_1 : decode cX10_drift 1 = .ok (.iload_n 1, 1) := by decide +kernel
theorem dX10_drift_2 : decode cX10_drift 2 = .ok (.invokevirtual 187, 3) := by decide +kernel
theorem dX10_drift_5 : decode cX10_drift 5 = .ok (.istore_n 2, 1) := by decide +kernel
theorem dX10_drift_6 : decode cX10_drift 6 = .ok (.iload_n 2, 1) := by decide +kernel
theorem dX10_drift_7 : decode cX10_drift 7 = .ok (.ifCond .eq 5, 3) := by decide +kernel
theorem dX10_drift_10 : decode cX10_drift 10 = .ok (.iload_n 2, 1) := by decide +kernel
theorem dX10_drift_11 : decode cX10_drift 11 = .ok (.ireturn, 1) := by decide +kernel
theorem dX10_drift_12 : decode cX10_drift 12 = .ok (.aload_n 0, 1) := by decide +kernel
theorem dX10_drift_13 : decode cX10_drift 13 = .ok (.getfield 39, 3) := by decide +kernel
theorem dX10_drift_16 : decode cX10_drift 16 = .ok (.aload_n 0, 1) := by decide +kernel
theorem dX10_drift_17 : decode cX10_drift 17 = .ok (.getfield 29, 3) := by decide +kernel
theorem dX10_drift_20 : decode cX10_drift 20 = .ok (.invokevirtual 190, 3) := by decide +kernel
theorem dX10_drift_23 : decode cX10_drift 23 = .ok (.iconst 0, 1) := by decide +kernel
theorem dX10_drift_24 : decode cX10_drift 24 = .ok (.istore_n 3, 1) := by decide +kernel
theorem dX10_drift_25 : decode cX10_drift 25 = .ok (.iload_n 3, 1) := by decide +kernel
theorem dX10_drift_26 : decode cX10_drift 26 = .ok (.iload_n 1, 1) := by decide +kernel
theorem dX10_drift_27 : decode cX10_drift 27 = .ok (.if_icmp .ge 34, 3) := by decide +kernel
theorem dX10_drift_30 : decode cX10_drift 30 = .ok (.aload_n 0, 1) := by decide +kernel
theorem dX10_drift_31 : decode cX10_drift 31 = .ok (.getfield 12, 3) := by decide +kernel
theorem dX10_drift_34 : decode cX10_drift 34 = .ok (.getfield 123, 3) := by decide +kernel
theorem dX10_drift_37 : decode cX10_drift 37 = .ok (.ifCond .le 7, 3) := by decide +kernel
theorem dX10_drift_40 : decode cX10_drift 40 = .ok (.aload_n 0, 1) := by decide +kernel
theorem dX10_drift_41 : decode cX10_drift 41 = .ok (.invokevirtual 206, 3) := by decide +kernel
theorem dX10_drift_44 : decode cX10_drift 44 = .ok (.aload_n 0, 1) := by decide +kernel
theorem dX10_drift_45 : decode cX10_drift 45 = .ok (.getfield 29, 3) := by decide +kernel
theorem dX10_drift_48 : decode cX10_drift 48 = .ok (.aload_n 0, 1) := by decide +kernel
theorem dX10_drift_49 : decode cX10_drift 49 = .ok (.getfield 12, 3) := by decide +kernel
theorem dX10_drift_52 : decode cX10_drift 52 = .ok (.invokevirtual 194, 3) := by decide +kernel
theorem dX10_drift_55 : decode cX10_drift 55 = .ok (.iinc 3 1, 3) := by decide +kernel
theorem dX10_drift_58 : decode cX10_drift 58 = .ok (.goto (-33), 3) := by decide +kernel
theorem dX10_drift_61 : decode cX10_drift 61 = .ok (.aload_n 0, 1) := by decide +kernel
theorem dX10_drift_62 : decode cX10_drift 62 = .ok (.getfield 29, 3) := by decide +kernel
theorem dX10_drift_65 : decode cX10_drift 65 = .ok (.getfield 132, 3) := by decide +kernel
theorem dX10_drift_68 : decode cX10_drift 68 = .ok (.ireturn, 1) := by decide +kernel
theorem bX10_drift_0 {κ : gK} {M : MM} {Q : Int32 → MM → Prop} (l1 : Int32)
    (h : Cl κ mX10_refusalOfDawns [.ref 0, .int l1] M (fun r1 M1 => ((r1 = 0 → Cl κ mX4_remember [.ref 21, .ref 13] M1 (fun _ M2 => G κ mX10_drift 25 [.ref 0, .int l1, .null, .int (0 : Int32)] [] M2 Q)) ∧ (¬ r1 = 0 → Q r1 M1)))) :
    G κ mX10_drift 0 [.ref 0, .int l1, .null, .null] [] M Q := by
  refine g_aload_n (i := 0) dX10_drift_0 rfl rfl ?_
  refine g_iload_n (i := 1) dX10_drift_1 rfl rfl ?_
  refine gc_RX10_187 rfl (Nat.le_of_ble_eq_true rfl) dX10_drift_2 sh_0 (Nat.le_of_ble_eq_true rfl) ?_
  refine Cl.mono h (fun r1 M1 h => ?_)
  refine g_istore_n (i := 2) (L' := [.ref 0, .int l1, .int r1, .null]) dX10_drift_5 rfl (Nat.le_of_ble_eq_true rfl) rfl rfl ?_
  refine g_iload_n (i := 2) dX10_drift_6 rfl rfl ?_
  refine g_if_eq (tgt := 12) dX10_drift_7 rfl ⟨fun hc => ?_, fun hc => ?_⟩
  · replace h := h.1 hc
    refine g_aload_n (i := 0) dX10_drift_12 rfl rfl ?_
    refine gf_RX10_39 rfl dX10_drift_13 sh_0 ?_
    refine g_aload_n (i := 0) dX10_drift_16 rfl rfl ?_
    refine gf_RX10_29 rfl dX10_drift_17 sh_0 ?_
    refine gc_RX10_190 rfl (Nat.le_of_ble_eq_true rfl) dX10_drift_20 sh_21 (Nat.le_of_ble_eq_true rfl) ?_
    refine Cl.mono h (fun r2 M2 h => ?_)
    refine g_iconst (v := (0 : Int32)) dX10_drift_23 (by decide) ?_
    refine g_istore_n (i := 3) (L' := [.ref 0, .int l1, .int r1, .int (0 : Int32)]) dX10_drift_24 rfl (Nat.le_of_ble_eq_true rfl) rfl rfl ?_
    exact g_sub _ (sub_c (Or.inr rfl) (sub_c (Or.inr rfl) (sub_c (Or.inl rfl) (sub_c (Or.inr rfl) sub_n)))) h
  · replace h := h.2 hc
    refine g_iload_n (i := 2) dX10_drift_10 rfl rfl ?_
    exact g_iret dX10_drift_11 rfl h
theorem bX10_drift_25 {κ : gK} {M : MM} {Q : Int32 → MM → Prop} (l1 : Int32) (l3 : Int32)
    (h : ((l1 ≤ l3 → Q (M 13 3) M) ∧ (¬ l1 ≤ l3 → (((M 1 6) ≤ 0 → G κ mX10_drift 44 [.ref 0, .int l1, .null, .int l3] [] M Q) ∧ (¬ (M 1 6) ≤ 0 → Cl κ mX10_doByDraws [.ref 0] M (fun _ M1 => G κ mX10_drift 44 [.ref 0, .int l1, .null, .int l3] [] M1 Q)))))) :
    G κ mX10_drift 25 [.ref 0, .int l1, .null, .int l3] [] M Q := by
  refine g_iload_n (i := 3) dX10_drift_25 rfl rfl ?_
  refine g_iload_n (i := 1) dX10_drift_26 rfl rfl ?_
  refine g_icmp_ge (tgt := 61) dX10_drift_27 rfl ⟨fun hc => ?_, fun hc => ?_⟩
  · replace h := h.1 hc
    refine g_aload_n (i := 0) dX10_drift_61 rfl rfl ?_
    refine gf_RX10_29 rfl dX10_drift_62 sh_0 ?_
    refine gf_RX10_132 rfl dX10_drift_65 sh_13 ?_
    exact g_iret dX10_drift_68 rfl h
  · replace h := h.2 hc
    refine g_aload_n (i := 0) dX10_drift_30 rfl rfl ?_
    refine gf_RX10_12 rfl dX10_drift_31 sh_0 ?_
    refine gf_RX10_123 rfl dX10_drift_34 sh_1 ?_
    refine g_if_le (tgt := 44) dX10_drift_37 rfl ⟨fun hc => ?_, fun hc => ?_⟩
    · replace h := h.1 hc
      exact h
    · replace h := h.2 hc
      refine g_aload_n (i := 0) dX10_drift_40 rfl rfl ?_
      refine gc_RX10_206 rfl (Nat.le_of_ble_eq_true rfl) dX10_drift_41 sh_0 (Nat.le_of_ble_eq_true rfl) ?_
      refine Cl.mono h (fun r1 M1 h => ?_)
      exact h
theorem bX10_drift_44 {κ : gK} {M : MM} {Q : Int32 → MM → Prop} (l1 : Int32) (l3 : Int32)
    (h : Cl κ mX8_passDawn [.ref 13, .ref 1] M (fun _ M1 => G κ mX10_drift 25 [.ref 0, .int l1, .null, .int (l3 + 1)] [] M1 Q)) :
    G κ mX10_drift 44 [.ref 0, .int l1, .null, .int l3] [] M Q := by
  refine g_aload_n (i := 0) dX10_drift_44 rfl rfl ?_
  refine gf_RX10_29 rfl dX10_drift_45 sh_0 ?_
  refine g_aload_n (i := 0) dX10_drift_48 rfl rfl ?_
  refine gf_RX10_12 rfl dX10_drift_49 sh_0 ?_
  refine gc_RX10_194 rfl (Nat.le_of_ble_eq_true rfl) dX10_drift_52 sh_13 (Nat.le_of_ble_eq_true rfl) ?_
  refine Cl.mono h (fun r1 M1 h => ?_)
  refine g_iinc (v := (l3 + 1)) (L' := [.ref 0, .int l1, .null, .int (l3 + 1)]) dX10_drift_55 rfl rfl (Nat.le_of_ble_eq_true rfl) rfl rfl ?_
  refine g_goto (tgt := 25) dX10_drift_58 rfl ?_
  exact h
theorem eX10_drift {κ : gK} {M : MM} {Q : Int32 → MM → Prop} (l1 : Int32)
    (h : G κ mX10_drift 0 [.ref 0, .int l1, .null, .null] [] M Q) : Cl κ mX10_drift [.ref 0, .int l1] M Q := g_entry 2 pl_X10_drift (Nat.le_of_ble_eq_true rfl) (L := [.ref 0, .int l1, .null, .null]) rfl (g_sub _ (sub_c (Or.inr rfl) (sub_c (Or.inr rfl) (sub_c (Or.inr rfl) (sub_c (Or.inr rfl) sub_n)))) h)
theorem dX10_undo_0 : decode cX10_undo 0 = .ok (.aload_n 0, 1) := by decide +kernel
theorem dX10_undo_1 : decode cX10_undo 1 = .ok (.getfield 39, 3) := by decide +kernel
theorem dX10_undo_4 : decode cX10_undo 4 = .ok (.getfield 162, 3) := by decide +kernel
theorem dX10_undo_7 : decode cX10_undo 7 = .ok (.ifCond .ne 6, 3) := by decide +kernel
theorem dX10_undo_10 : decode cX10_undo 10 = .ok (.ldc 201, 2) := by decide +kernel
theorem dX10_undo_12 : decode cX10_undo 12 = .ok (.ireturn, 1) := by decide +kernel
theorem dX10_undo_13 : decode cX10_undo 13 = .ok (.aload_n 0, 1) := by decide +kernel
theorem dX10_undo_14 : decode cX10_undo 14 = .ok (.getfield 39, 3) := by decide +kernel
theorem dX10_undo_17 : decode cX10_undo 17 = .ok (.aload_n 0, 1) := by decide +kernel
theorem dX10_undo_18 : decode cX10_undo 18 = .ok (.getfield 29, 3) := by decide +kernel
theorem dX10_undo_21 : decode cX10_undo 21 = .ok (.invokevirtual 209, 3) := by decide +kernel
theorem dX10_undo_24 : decode cX10_undo 24 = .ok (.aload_n 0, 1) := by decide +kernel
theorem dX10_undo_25 : decode cX10_undo 25 = .ok (.getfield 39, 3) := by decide +kernel
theorem dX10_undo_28 : decode cX10_undo 28 = .ok (.getfield 162, 3) := by decide +kernel
theorem dX10_undo_31 : decode cX10_undo 31 = .ok (.ireturn, 1) := by decide +kernel
theorem bX10_undo_0 {κ : gK} {M : MM} {Q : Int32 → MM → Prop} 
    (h : (((M 21 2) = 0 → Q (-1000000003 : Int32) M) ∧ (¬ (M 21 2) = 0 → Cl κ mX4_restore [.ref 21, .ref 13] M (fun _ M1 => Q (M1 21 2) M1)))) :
    G κ mX10_undo 0 [.ref 0] [] M Q := by
  refine g_aload_n (i := 0) dX10_undo_0 rfl rfl ?_
  refine gf_RX10_39 rfl dX10_undo_1 sh_0 ?_
  refine gf_RX10_162 rfl dX10_undo_4 sh_21 ?_
  refine g_if_ne (tgt := 13) dX10_undo_7 rfl ⟨fun hc => ?_, fun hc => ?_⟩
  · replace h := h.1 hc
    refine g_ldc dX10_undo_10 wt_487 ?_
    exact g_iret dX10_undo_12 rfl h
  · replace h := h.2 hc
    refine g_aload_n (i := 0) dX10_undo_13 rfl rfl ?_
    refine gf_RX10_39 rfl dX10_undo_14 sh_0 ?_
    refine g_aload_n (i := 0) dX10_undo_17 rfl rfl ?_
    refine gf_RX10_29 rfl dX10_undo_18 sh_0 ?_
    refine gc_RX10_209 rfl (Nat.le_of_ble_eq_true rfl) dX10_undo_21 sh_21 (Nat.le_of_ble_eq_true rfl) ?_
    refine Cl.mono h (fun r1 M1 h => ?_)
    refine g_aload_n (i := 0) dX10_undo_24 rfl rfl ?_
    refine gf_RX10_39 rfl dX10_undo_25 sh_0 ?_
    refine gf_RX10_162 rfl dX10_undo_28 sh_21 ?_
    exact g_iret dX10_undo_31 rfl h
theorem eX10_undo {κ : gK} {M : MM} {Q : Int32 → MM → Prop} 
    (h : G κ mX10_undo 0 [.ref 0] [] M Q) : Cl κ mX10_undo [.ref 0] M Q := g_entry 0 pl_X10_undo (Nat.le_of_ble_eq_true rfl) (L := [.ref 0]) rfl (g_sub _ (sub_c (Or.inr rfl) sub_n) h)
theorem dX10_layers_0 : decode cX10_layers 0 = .ok (.aload_n 0, 1) := by decide +kernel
theorem dX10_layers_1 : decode cX10_layers 1 = .ok (.getfield 12, 3) := by decide +kernel
theorem dX10_layers_4 : decode cX10_layers 4 = .ok (.iload_n 1, 1) := by decide +kernel
theorem dX10_layers_5 : decode cX10_layers 5 = .ok (.invokevirtual 163, 3) := by decide +kernel
theorem dX10_layers_8 : decode cX10_layers 8 = .ok (.ifCond .ne 6, 3) := by decide +kernel
theorem dX10_layers_11 : decode cX10_layers 11 = .ok (.ldc 167, 2) := by decide +kernel
theorem dX10_layers_13 : decode cX10_layers 13 = .ok (.ireturn, 1) := by decide +kernel
theorem dX10_layers_14 : decode cX10_layers 14 = .ok (.iload_n 2, 1) := by decide +kernel
theorem dX10_layers_15 : decode cX10_layers 15 = .ok (.ifCond .lt 10, 3) := by decide +kernel
theorem dX10_layers_18 : decode cX10_layers 18 = .ok (.iload_n 2, 1) := by decide +kernel
theorem dX10_layers_19 : decode cX10_layers 19 = .ok (.sipush 200, 3) := by decide +kernel
theorem dX10_layers_22 : decode cX10_layers 22 = .ok (.if_icmp .le 6, 3) := by decide +kernel
theorem dX10_layers_25 : decode cX10_layers 25 = .ok (.ldc 92, 2) := by decide +kernel
theorem dX10_layers_27 : decode cX10_layers 27 = .ok (.ireturn, 1) := by decide +kernel
theorem dX10_layers_28 : decode cX10_layers 28 = .ok (.aload_n 0, 1) := by decide +kernel
theorem dX10_layers_29 : decode cX10_layers 29 = .ok (.getfield 33, 3) := by decide +kernel
theorem dX10_layers_32 : decode cX10_layers 32 = .ok (.aload_n 0, 1) := by decide +kernel
theorem dX10_layers_33 : decode cX10_layers 33 = .ok (.getfield 29, 3) := by decide +kernel
theorem dX10_layers_36 : decode cX10_layers 36 = .ok (.invokevirtual 212, 3) := by decide +kernel
theorem dX10_layers_39 : decode cX10_layers 39 = .ok (.iconst 0, 1) := by decide +kernel
theorem dX10_layers_40 : decode cX10_layers 40 = .ok (.istore_n 3, 1) := by decide +kernel
theorem dX10_layers_41 : decode cX10_layers 41 = .ok (.iload_n 3, 1) := by decide +kernel
theorem dX10_layers_42 : decode cX10_layers 42 = .ok (.iload_n 2, 1) := by decide +kernel
theorem dX10_layers_43 : decode cX10_layers 43 = .ok (.if_icmp .ge 20, 3) := by decide +kernel
theorem dX10_layers_46 : decode cX10_layers 46 = .ok (.aload_n 0, 1) := by decide +kernel
theorem dX10_layers_47 : decode cX10_layers 47 = .ok (.getfield 33, 3) := by decide +kernel
theorem dX10_layers_50 : decode cX10_layers 50 = .ok (.aload_n 0, 1) := by decide +kernel
theorem dX10_layers_51 : decode cX10_layers 51 = .ok (.getfield 12, 3) := by decide +kernel
theorem dX10_layers_54 : decode cX10_layers 54 = .ok (.invokevirtual 194, 3) := by decide +kernel
theorem dX10_layers_57 : decode cX10_layers 57 = .ok (.iinc 3 1, 3) := by decide +kernel
theorem dX10_layers_60 : decode cX10_layers 60 = .ok (.goto (-19), 3) := by decide +kernel
theorem dX10_layers_63 : decode cX10_layers 63 = .ok (.aload_n 0, 1) := by decide +kernel
theorem dX10_layers_64 : decode cX10_layers 64 = .ok (.getfield 33, 3) := by decide +kernel
theorem dX10_layers_67 : decode cX10_layers 67 = .ok (.getfield 172, 3) := by decide +kernel
theorem dX10_layers_70 : decode cX10_layers 70 = .ok (.iload_n 1, 1) := by decide +kernel
theorem dX10_layers_71 : decode cX10_layers 71 = .ok (.iaload, 1) := by decide +kernel
theorem dX10_layers_72 : decode cX10_layers 72 = .ok (.ireturn, 1) := by decide +kernel
theorem bX10_layers_0 {κ : gK} {M : MM} {Q : Int32 → MM → Prop} (l1 : Int32) (l2 : Int32)
    (h : Cl κ mX9_hasPerson [.ref 1, .int l1] M (fun r1 M1 => ((r1 = 0 → Q (-1000000001 : Int32) M1) ∧ (¬ r1 = 0 → ((l2 < 0 → G κ mX10_layers 25 [.null, .null, .null, .null] [] M1 Q) ∧ (¬ l2 < 0 → ((l2 ≤ (200 : Int32) → Cl κ mX8_copyFrom [.ref 17, .ref 13] M1 (fun _ M2 => G κ mX10_layers 41 [.ref 0, .int l1, .int l2, .int (0 : Int32)] [] M2 Q)) ∧ (¬ l2 ≤ (200 : Int32) → G κ mX10_layers 25 [.null, .null, .null, .null] [] M1 Q)))))))) :
    G κ mX10_layers 0 [.ref 0, .int l1, .int l2, .null] [] M Q := by
  refine g_aload_n (i := 0) dX10_layers_0 rfl rfl ?_
  refine gf_RX10_12 rfl dX10_layers_1 sh_0 ?_
  refine g_iload_n (i := 1) dX10_layers_4 rfl rfl ?_
  refine gc_RX10_163 rfl (Nat.le_of_ble_eq_true rfl) dX10_layers_5 sh_1 (Nat.le_of_ble_eq_true rfl) ?_
  refine Cl.mono h (fun r1 M1 h => ?_)
  refine g_if_ne (tgt := 14) dX10_layers_8 rfl ⟨fun hc => ?_, fun hc => ?_⟩
  · replace h := h.1 hc
    refine g_ldc dX10_layers_11 wt_468 ?_
    exact g_iret dX10_layers_13 rfl h
  · replace h := h.2 hc
    refine g_iload_n (i := 2) dX10_layers_14 rfl rfl ?_
    refine g_if_lt (tgt := 25) dX10_layers_15 rfl ⟨fun hc => ?_, fun hc => ?_⟩
    · replace h := h.1 hc
      exact g_sub _ (sub_c (Or.inl rfl) (sub_c (Or.inl rfl) (sub_c (Or.inl rfl) (sub_c (Or.inr rfl) sub_n)))) h
    · replace h := h.2 hc
      refine g_iload_n (i := 2) dX10_layers_18 rfl rfl ?_
      refine g_sipush (v := (200 : Int32)) dX10_layers_19 (by decide) ?_
      refine g_icmp_le (tgt := 28) dX10_layers_22 rfl ⟨fun hc => ?_, fun hc => ?_⟩
      · replace h := h.1 hc
        refine g_aload_n (i := 0) dX10_layers_28 rfl rfl ?_
        refine gf_RX10_33 rfl dX10_layers_29 sh_0 ?_
        refine g_aload_n (i := 0) dX10_layers_32 rfl rfl ?_
        refine gf_RX10_29 rfl dX10_layers_33 sh_0 ?_
        refine gc_RX10_212 rfl (Nat.le_of_ble_eq_true rfl) dX10_layers_36 sh_17 (Nat.le_of_ble_eq_true rfl) ?_
        refine Cl.mono h (fun r2 M2 h => ?_)
        refine g_iconst (v := (0 : Int32)) dX10_layers_39 (by decide) ?_
        refine g_istore_n (i := 3) (L' := [.ref 0, .int l1, .int l2, .int (0 : Int32)]) dX10_layers_40 rfl (Nat.le_of_ble_eq_true rfl) rfl rfl ?_
        exact h
      · replace h := h.2 hc
        exact g_sub _ (sub_c (Or.inl rfl) (sub_c (Or.inl rfl) (sub_c (Or.inl rfl) (sub_c (Or.inr rfl) sub_n)))) h
theorem bX10_layers_25 {κ : gK} {M : MM} {Q : Int32 → MM → Prop} 
    (h : Q (-1000000002 : Int32) M) :
    G κ mX10_layers 25 [.null, .null, .null, .null] [] M Q := by
  refine g_ldc dX10_layers_25 wt_309 ?_
  exact g_iret dX10_layers_27 rfl h
theorem bX10_layers_41 {κ : gK} {M : MM} {Q : Int32 → MM → Prop} (l1 : Int32) (l2 : Int32) (l3 : Int32)
    (h : ((l2 ≤ l3 → (vp_in l1 8) ∧ (Q (M 18 (l1).toNatClampNeg) M)) ∧ (¬ l2 ≤ l3 → Cl κ mX8_passDawn [.ref 17, .ref 1] M (fun _ M1 => G κ mX10_layers 41 [.ref 0, .int l1, .int l2, .int (l3 + 1)] [] M1 Q)))) :
    G κ mX10_layers 41 [.ref 0, .int l1, .int l2, .int l3] [] M Q := by
  refine g_iload_n (i := 3) dX10_layers_41 rfl rfl ?_
  refine g_iload_n (i := 2) dX10_layers_42 rfl rfl ?_
  refine g_icmp_ge (tgt := 63) dX10_layers_43 rfl ⟨fun hc => ?_, fun hc => ?_⟩
  · replace h := h.1 hc
    refine g_aload_n (i := 0) dX10_layers_63 rfl rfl ?_
    refine gf_RX10_33 rfl dX10_layers_64 sh_0 ?_
    refine gf_RX10_172 rfl dX10_layers_67 sh_17 ?_
    refine g_iload_n (i := 1) dX10_layers_70 rfl rfl ?_
    have hv1 := h.1; replace h := h.2
    refine g_iald dX10_layers_71 sh_18 hv1 ?_
    exact g_iret dX10_layers_72 rfl h
  · replace h := h.2 hc
    refine g_aload_n (i := 0) dX10_layers_46 rfl rfl ?_
    refine gf_RX10_33 rfl dX10_layers_47 sh_0 ?_
    refine g_aload_n (i := 0) dX10_layers_50 rfl rfl ?_
    refine gf_RX10_12 rfl dX10_layers_51 sh_0 ?_
    refine gc_RX10_194 rfl (Nat.le_of_ble_eq_true rfl) dX10_layers_54 sh_17 (Nat.le_of_ble_eq_true rfl) ?_
    refine Cl.mono h (fun r1 M1 h => ?_)
    refine g_iinc (v := (l3 + 1)) (L' := [.ref 0, .int l1, .int l2, .int (l3 + 1)]) dX10_layers_57 rfl rfl (Nat.le_of_ble_eq_true rfl) rfl rfl ?_
    refine g_goto (tgt := 41) dX10_layers_60 rfl ?_
    exact h
theorem eX10_layers {κ : gK} {M : MM} {Q : Int32 → MM → Prop} (l1 : Int32) (l2 : Int32)
    (h : G κ mX10_layers 0 [.ref 0, .int l1, .int l2, .null] [] M Q) : Cl κ mX10_layers [.ref 0, .int l1, .int l2] M Q := g_entry 1 pl_X10_layers (Nat.le_of_ble_eq_true rfl) (L := [.ref 0, .int l1, .int l2, .null]) rfl (g_sub _ (sub_c (Or.inr rfl) (sub_c (Or.inr rfl) (sub_c (Or.inr rfl) (sub_c (Or.inr rfl) sub_n)))) h)
theorem dX10_first_0 : decode cX10_first 0 = .ok (.aload_n 0, 1) := by decide +kernel
theorem dX10_first_1 : decode cX10_first 1 = .ok (.getfield 12, 3) := by decide +kernel
theorem dX10_first_4 : decode cX10_first 4 = .ok (.iload_n 1, 1) := by decide +kernel
theorem dX10_first_5 : decode cX10_first 5 = .ok (.invokevirtual 163, 3) := by decide +kernel
theorem dX10_first_8 : decode cX10_first 8 = .ok (.ifCond .eq 14, 3) := by decide +kernel
theorem dX10_first_11 : decode cX10_first 11 = .ok (.aload_n 0, 1) := by decide +kernel
theorem dX10_first_12 : decode cX10_first 12 = .ok (.getfield 12, 3) := by decide +kernel
theorem dX10_first_15 : decode cX10_first 15 = .ok (.iload_n 2, 1) := by decide +kernel
theorem dX10_first_16 : decode cX10_first 16 = .ok (.invokevirtual 184, 3) := by decide +kernel
theorem dX10_first_19 : decode cX10_first 19 = .ok (.ifCond .ne 6, 3) := by decide +kernel
theorem dX10_first_22 : decode cX10_first 22 = .ok (.ldc 167, 2) := by decide +kernel
theorem dX10_first_24 : decode cX10_first 24 = .ok (.ireturn, 1) := by decide +kernel
theorem dX10_first_25 : decode cX10_first 25 = .ok (.aload_n 0, 1) := by decide +kernel
theorem dX10_first_26 : decode cX10_first 26 = .ok (.getfield 33, 3) := by decide +kernel
theorem dX10_first_29 : decode cX10_first 29 = .ok (.aload_n 0, 1) := by decide +kernel
theorem dX10_first_30 : decode cX10_first 30 = .ok (.getfield 29, 3) := by decide +kernel
theorem dX10_first_33 : decode cX10_first 33 = .ok (.invokevirtual 212, 3) := by decide +kernel
theorem dX10_first_36 : decode cX10_first 36 = .ok (.iconst 0, 1) := by decide +kernel
theorem dX10_first_37 : decode cX10_first 37 = .ok (.istore_n 3, 1) := by decide +kernel
theorem dX10_first_38 : decode cX10_first 38 = .ok (.iload_n 3, 1) := by decide +kernel
theorem dX10_first_39 : decode cX10_first 39 = .ok (.sipush 200, 3) := by decide +kernel
theorem dX10_first_42 : decode cX10_first 42 = .ok (.if_icmp .gt 38, 3) := by decide +kernel
theorem dX10_first_45 : decode cX10_first 45 = .ok (.aload_n 0, 1) := by decide +kernel
theorem dX10_first_46 : decode cX10_first 46 = .ok (.getfield 33, 3) := by decide +kernel
theorem dX10_first_49 : decode cX10_first 49 = .ok (.getfield 172, 3) := by decide +kernel
theorem dX10_first_52 : decode cX10_first 52 = .ok (.iload_n 1, 1) := by decide +kernel
theorem dX10_first_53 : decode cX10_first 53 = .ok (.iaload, 1) := by decide +kernel
theorem dX10_first_54 : decode cX10_first 54 = .ok (.iconst 1, 1) := by decide +kernel
theorem dX10_first_55 : decode cX10_first 55 = .ok (.iload_n 2, 1) := by decide +kernel
theorem dX10_first_56 : decode cX10_first 56 = .ok (.ishl, 1) := by decide +kernel
theorem dX10_first_57 : decode cX10_first 57 = .ok (.iand, 1) := by decide +kernel
theorem dX10_first_58 : decode cX10_first 58 = .ok (.ifCond .eq 5, 3) := by decide +kernel
theorem dX10_first_61 : decode cX10_first 61 = .ok (.iload_n 3, 1) := by decide +kernel
theorem dX10_first_62 : decode cX10_first 62 = .ok (.ireturn, 1) := by decide +kernel
theorem dX10_first_63 : decode cX10_first 63 = .ok (.aload_n 0, 1) := by decide +kernel
theorem dX10_first_64 : decode cX10_first 64 = .ok (.getfield 33, 3) := by decide +kernel
theorem dX10_first_67 : decode cX10_first 67 = .ok (.aload_n 0, 1) := by decide +kernel
theorem dX10_first_68 : decode cX10_first 68 = .ok (.getfield 12, 3) := by decide +kernel
theorem dX10_first_71 : decode cX10_first 71 = .ok (.invokevirtual 194, 3) := by decide +kernel
theorem dX10_first_74 : decode cX10_first 74 = .ok (.iinc 3 1, 3) := by decide +kernel
theorem dX10_first_77 : decode cX10_first 77 = .ok (.goto (-39), 3) := by decide +kernel
theorem dX10_first_80 : decode cX10_first 80 = .ok (.iconst (-1), 1) := by decide +kernel
theorem dX10_first_81 : decode cX10_first 81 = .ok (.ireturn, 1) := by decide +kernel
theorem bX10_first_0 {κ : gK} {M : MM} {Q : Int32 → MM → Prop} (l1 : Int32) (l2 : Int32)
    (h : Cl κ mX9_hasPerson [.ref 1, .int l1] M (fun r1 M1 => ((r1 = 0 → G κ mX10_first 22 [.null, .null, .null, .null] [] M1 Q) ∧ (¬ r1 = 0 → Cl κ mX9_hasLayer [.ref 1, .int l2] M1 (fun r2 M2 => ((r2 = 0 → G κ mX10_first 22 [.null, .null, .null, .null] [] M2 Q) ∧ (¬ r2 = 0 → Cl κ mX8_copyFrom [.ref 17, .ref 13] M2 (fun _ M3 => G κ mX10_first 38 [.ref 0, .int l1, .int l2, .int (0 : Int32)] [] M3 Q)))))))) :
    G κ mX10_first 0 [.ref 0, .int l1, .int l2, .null] [] M Q := by
  refine g_aload_n (i := 0) dX10_first_0 rfl rfl ?_
  refine gf_RX10_12 rfl dX10_first_1 sh_0 ?_
  refine g_iload_n (i := 1) dX10_first_4 rfl rfl ?_
  refine gc_RX10_163 rfl (Nat.le_of_ble_eq_true rfl) dX10_first_5 sh_1 (Nat.le_of_ble_eq_true rfl) ?_
  refine Cl.mono h (fun r1 M1 h => ?_)
  refine g_if_eq (tgt := 22) dX10_first_8 rfl ⟨fun hc => ?_, fun hc => ?_⟩
  · replace h := h.1 hc
    exact g_sub _ (sub_c (Or.inl rfl) (sub_c (Or.inl rfl) (sub_c (Or.inl rfl) (sub_c (Or.inr rfl) sub_n)))) h
  · replace h := h.2 hc
    refine g_aload_n (i := 0) dX10_first_11 rfl rfl ?_
    refine gf_RX10_12 rfl dX10_first_12 sh_0 ?_
    refine g_iload_n (i := 2) dX10_first_15 rfl rfl ?_
    refine gc_RX10_184 rfl (Nat.le_of_ble_eq_true rfl) dX10_first_16 sh_1 (Nat.le_of_ble_eq_true rfl) ?_
    refine Cl.mono h (fun r2 M2 h => ?_)
    refine g_if_ne (tgt := 25) dX10_first_19 rfl ⟨fun hc => ?_, fun hc => ?_⟩
    · replace h := h.1 hc
      exact g_sub _ (sub_c (Or.inl rfl) (sub_c (Or.inl rfl) (sub_c (Or.inl rfl) (sub_c (Or.inr rfl) sub_n)))) h
    · replace h := h.2 hc
      refine g_aload_n (i := 0) dX10_first_25 rfl rfl ?_
      refine gf_RX10_33 rfl dX10_first_26 sh_0 ?_
      refine g_aload_n (i := 0) dX10_first_29 rfl rfl ?_
      refine gf_RX10_29 rfl dX10_first_30 sh_0 ?_
      refine gc_RX10_212 rfl (Nat.le_of_ble_eq_true rfl) dX10_first_33 sh_17 (Nat.le_of_ble_eq_true rfl) ?_
      refine Cl.mono h (fun r3 M3 h => ?_)
      refine g_iconst (v := (0 : Int32)) dX10_first_36 (by decide) ?_
      refine g_istore_n (i := 3) (L' := [.ref 0, .int l1, .int l2, .int (0 : Int32)]) dX10_first_37 rfl (Nat.le_of_ble_eq_true rfl) rfl rfl ?_
      exact h
theorem bX10_first_22 {κ : gK} {M : MM} {Q : Int32 → MM → Prop} 
    (h : Q (-1000000001 : Int32) M) :
    G κ mX10_first 22 [.null, .null, .null, .null] [] M Q := by
  refine g_ldc dX10_first_22 wt_468 ?_
  exact g_iret dX10_first_24 rfl h
theorem bX10_first_38 {κ : gK} {M : MM} {Q : Int32 → MM → Prop} (l1 : Int32) (l2 : Int32) (l3 : Int32)
    (h : (((200 : Int32) < l3 → Q (-1 : Int32) M) ∧ (¬ (200 : Int32) < l3 → (vp_in l1 8) ∧ (((((M 18 (l1).toNatClampNeg) &&& (jshl (1 : Int32) l2)) = 0 → Cl κ mX8_passDawn [.ref 17, .ref 1] M (fun _ M1 => G κ mX10_first 38 [.ref 0, .int l1, .int l2, .int (l3 + 1)] [] M1 Q)) ∧ (¬ ((M 18 (l1).toNatClampNeg) &&& (jshl (1 : Int32) l2)) = 0 → Q l3 M)))))) :
    G κ mX10_first 38 [.ref 0, .int l1, .int l2, .int l3] [] M Q := by
  refine g_iload_n (i := 3) dX10_first_38 rfl rfl ?_
  refine g_sipush (v := (200 : Int32)) dX10_first_39 (by decide) ?_
  refine g_icmp_gt (tgt := 80) dX10_first_42 rfl ⟨fun hc => ?_, fun hc => ?_⟩
  · replace h := h.1 hc
    refine g_iconst (v := (-1 : Int32)) dX10_first_80 (by decide) ?_
    exact g_iret dX10_first_81 rfl h
  · replace h := h.2 hc
    refine g_aload_n (i := 0) dX10_first_45 rfl rfl ?_
    refine gf_RX10_33 rfl dX10_first_46 sh_0 ?_
    refine gf_RX10_172 rfl dX10_first_49 sh_17 ?_
    refine g_iload_n (i := 1) dX10_first_52 rfl rfl ?_
    have hv1 := h.1; replace h := h.2
    refine g_iald dX10_first_53 sh_18 hv1 ?_
    refine g_iconst (v := (1 : Int32)) dX10_first_54 (by decide) ?_
    refine g_iload_n (i := 2) dX10_first_55 rfl rfl ?_
    refine g_ishl dX10_first_56 ?_
    refine g_iand dX10_first_57 ?_
    refine g_if_eq (tgt := 63) dX10_first_58 rfl ⟨fun hc => ?_, fun hc => ?_⟩
    · replace h := h.1 hc
      refine g_aload_n (i := 0) dX10_first_63 rfl rfl ?_
      refine gf_RX10_33 rfl dX10_first_64 sh_0 ?_
      refine g_aload_n (i := 0) dX10_first_67 rfl rfl ?_
      refine gf_RX10_12 rfl dX10_first_68 sh_0 ?_
      refine gc_RX10_194 rfl (Nat.le_of_ble_eq_true rfl) dX10_first_71 sh_17 (Nat.le_of_ble_eq_true rfl) ?_
      refine Cl.mono h (fun r1 M1 h => ?_)
      refine g_iinc (v := (l3 + 1)) (L' := [.ref 0, .int l1, .int l2, .int (l3 + 1)]) dX10_first_74 rfl rfl (Nat.le_of_ble_eq_true rfl) rfl rfl ?_
      refine g_goto (tgt := 38) dX10_first_77 rfl ?_
      exact h
    · replace h := h.2 hc
      refine g_iload_n (i := 3) dX10_first_61 rfl rfl ?_
      exact g_iret dX10_first_62 rfl h
theorem eX10_first {κ : gK} {M : MM} {Q : Int32 → MM → Prop} (l1 : Int32) (l2 : Int32)
    (h : G κ mX10_first 0 [.ref 0, .int l1, .int l2, .null] [] M Q) : Cl κ mX10_first [.ref 0, .int l1, .int l2] M Q := g_entry 1 pl_X10_first (Nat.le_of_ble_eq_true rfl) (L := [.ref 0, .int l1, .int l2, .null]) rfl (g_sub _ (sub_c (Or.inr rfl) (sub_c (Or.inr rfl) (sub_c (Or.inr rfl) (sub_c (Or.inr rfl) sub_n)))) h)
theorem dX10_together_0 : decode cX10_together 0 = .ok (.aload_n 0, 1) := by decide +kernel
theorem dX10_together_1 : decode cX10_together 1 = .ok (.getfield 12, 3) := by decide +kernel
theorem dX10_together_4 : decode cX10_together 4 = .ok (.iload_n 1, 1) := by decide +kernel
theorem dX10_together_5 : decode cX10_together 5 = .ok (.invokevirtual 214, 3) := by decide +kernel
theorem dX10_together_8 : decode cX10_together 8 = .ok (.ifCond .ne 6, 3) := by decide +kernel
theorem dX10_together_11 : decode cX10_together 11 = .ok (.ldc 167, 2) := by decide +kernel
theorem dX10_together_13 : decode cX10_together 13 = .ok (.ireturn, 1) := by decide +kernel
theorem dX10_together_14 : decode cX10_together 14 = .ok (.aload_n 0, 1) := by decide +kernel
theorem dX10_together_15 : decode cX10_together 15 = .ok (.getfield 12, 3) := by decide +kernel
theorem dX10_together_18 : decode cX10_together 18 = .ok (.invokevirtual 197, 3) := by decide +kernel
theorem dX10_together_21 : decode cX10_together 21 = .ok (.ifCond .ne 6, 3) := by decide +kernel
theorem dX10_together_24 : decode cX10_together 24 = .ok (.ldc 201, 2) := by decide +kernel
theorem dX10_together_26 : decode cX10_together 26 = .ok (.ireturn, 1) := by decide +kernel
theorem dX10_together_27 : decode cX10_together 27 = .ok (.aload_n 0, 1) := by decide +kernel
theorem dX10_together_28 : decode cX10_together 28 = .ok (.getfield 33, 3) := by decide +kernel
theorem dX10_together_31 : decode cX10_together 31 = .ok (.aload_n 0, 1) := by decide +kernel
theorem dX10_together_32 : decode cX10_together 32 = .ok (.getfield 29, 3) := by decide +kernel
theorem dX10_together_35 : decode cX10_together 35 = .ok (.invokevirtual 212, 3) := by decide +kernel
theorem dX10_together_38 : decode cX10_together 38 = .ok (.iconst 0, 1) := by decide +kernel
theorem dX10_together_39 : decode cX10_together 39 = .ok (.istore_n 2, 1) := by decide +kernel
theorem dX10_together_40 : decode cX10_together 40 = .ok (.iload_n 2, 1) := by decide +kernel
theorem dX10_together_41 : decode cX10_together 41 = .ok (.sipush 200, 3) := by decide +kernel
theorem dX10_together_44 : decode cX10_together 44 = .ok (.if_icmp .gt 33, 3) := by decide +kernel
theorem dX10_together_47 : decode cX10_together 47 = .ok (.aload_n 0, 1) := by decide +kernel
theorem dX10_together_48 : decode cX10_together 48 = .ok (.getfield 33, 3) := by decide +kernel
theorem dX10_together_51 : decode cX10_together 51 = .ok (.iload_n 1, 1) := by decide +kernel
theorem dX10_together_52 : decode cX10_together 52 = .ok (.invokevirtual 217, 3) := by decide +kernel
theorem dX10_together_55 : decode cX10_together 55 = .ok (.ifCond .eq 5, 3) := by decide +kernel
theorem dX10_together_58 : decode cX10_together 58 = .ok (.iload_n 2, 1) := by decide +kernel
theorem dX10_together_59 : decode cX10_together 59 = .ok (.ireturn, 1) := by decide +kernel
theorem dX10_together_60 : decode cX10_together 60 = .ok (.aload_n 0, 1) := by decide +kernel
theorem dX10_together_61 : decode cX10_together 61 = .ok (.getfield 33, 3) := by decide +kernel
theorem dX10_together_64 : decode cX10_together 64 = .ok (.aload_n 0, 1) := by decide +kernel
theorem dX10_together_65 : decode cX10_together 65 = .ok (.getfield 12, 3) := by decide +kernel
theorem dX10_together_68 : decode cX10_together 68 = .ok (.invokevirtual 194, 3) := by decide +kernel
theorem dX10_together_71 : decode cX10_together 71 = .ok (.iinc 2 1, 3) := by decide +kernel
theorem dX10_together_74 : decode cX10_together 74 = .ok (.goto (-34), 3) := by decide +kernel
theorem dX10_together_77 : decode cX10_together 77 = .ok (.iconst (-1), 1) := by decide +kernel
theorem dX10_together_78 : decode cX10_together 78 = .ok (.ireturn, 1) := by decide +kernel
theorem bX10_together_0 {κ : gK} {M : MM} {Q : Int32 → MM → Prop} (l1 : Int32)
    (h : Cl κ mX9_hasAll [.ref 1, .int l1] M (fun r1 M1 => ((r1 = 0 → Q (-1000000001 : Int32) M1) ∧ (¬ r1 = 0 → Cl κ mX9_isThere [.ref 1] M1 (fun r2 M2 => ((r2 = 0 → Q (-1000000003 : Int32) M2) ∧ (¬ r2 = 0 → Cl κ mX8_copyFrom [.ref 17, .ref 13] M2 (fun _ M3 => G κ mX10_together 40 [.ref 0, .int l1, .int (0 : Int32)] [] M3 Q)))))))) :
    G κ mX10_together 0 [.ref 0, .int l1, .null] [] M Q := by
  refine g_aload_n (i := 0) dX10_together_0 rfl rfl ?_
  refine gf_RX10_12 rfl dX10_together_1 sh_0 ?_
  refine g_iload_n (i := 1) dX10_together_4 rfl rfl ?_
  refine gc_RX10_214 rfl (Nat.le_of_ble_eq_true rfl) dX10_together_5 sh_1 (Nat.le_of_ble_eq_true rfl) ?_
  refine Cl.mono h (fun r1 M1 h => ?_)
  refine g_if_ne (tgt := 14) dX10_together_8 rfl ⟨fun hc => ?_, fun hc => ?_⟩
  · replace h := h.1 hc
    refine g_ldc dX10_together_11 wt_468 ?_
    exact g_iret dX10_together_13 rfl h
  · replace h := h.2 hc
    refine g_aload_n (i := 0) dX10_together_14 rfl rfl ?_
    refine gf_RX10_12 rfl dX10_together_15 sh_0 ?_
    refine gc_RX10_197 rfl (Nat.le_of_ble_eq_true rfl) dX10_together_18 sh_1 (Nat.le_of_ble_eq_true rfl) ?_
    refine Cl.mono h (fun r2 M2 h => ?_)
    refine g_if_ne (tgt := 27) dX10_together_21 rfl ⟨fun hc => ?_, fun hc => ?_⟩
    · replace h := h.1 hc
      refine g_ldc dX10_together_24 wt_487 ?_
      exact g_iret dX10_together_26 rfl h
    · replace h := h.2 hc
      refine g_aload_n (i := 0) dX10_together_27 rfl rfl ?_
      refine gf_RX10_33 rfl dX10_together_28 sh_0 ?_
      refine g_aload_n (i := 0) dX10_together_31 rfl rfl ?_
      refine gf_RX10_29 rfl dX10_together_32 sh_0 ?_
      refine gc_RX10_212 rfl (Nat.le_of_ble_eq_true rfl) dX10_together_35 sh_17 (Nat.le_of_ble_eq_true rfl) ?_
      refine Cl.mono h (fun r3 M3 h => ?_)
      refine g_iconst (v := (0 : Int32)) dX10_together_38 (by decide) ?_
      refine g_istore_n (i := 2) (L' := [.ref 0, .int l1, .int (0 : Int32)]) dX10_together_39 rfl (Nat.le_of_ble_eq_true rfl) rfl rfl ?_
      exact h
theorem bX10_together_40 {κ : gK} {M : MM} {Q : Int32 → MM → Prop} (l1 : Int32) (l2 : Int32)
    (h : (((200 : Int32) < l2 → Q (-1 : Int32) M) ∧ (¬ (200 : Int32) < l2 → Cl κ mX8_areTogether [.ref 17, .int l1] M (fun r1 M1 => ((r1 = 0 → Cl κ mX8_passDawn [.ref 17, .ref 1] M1 (fun _ M2 => G κ mX10_together 40 [.ref 0, .int l1, .int (l2 + 1)] [] M2 Q)) ∧ (¬ r1 = 0 → Q l2 M1)))))) :
    G κ mX10_together 40 [.ref 0, .int l1, .int l2] [] M Q := by
  refine g_iload_n (i := 2) dX10_together_40 rfl rfl ?_
  refine g_sipush (v := (200 : Int32)) dX10_together_41 (by decide) ?_
  refine g_icmp_gt (tgt := 77) dX10_together_44 rfl ⟨fun hc => ?_, fun hc => ?_⟩
  · replace h := h.1 hc
    refine g_iconst (v := (-1 : Int32)) dX10_together_77 (by decide) ?_
    exact g_iret dX10_together_78 rfl h
  · replace h := h.2 hc
    refine g_aload_n (i := 0) dX10_together_47 rfl rfl ?_
    refine gf_RX10_33 rfl dX10_together_48 sh_0 ?_
    refine g_iload_n (i := 1) dX10_together_51 rfl rfl ?_
    refine gc_RX10_217 rfl (Nat.le_of_ble_eq_true rfl) dX10_together_52 sh_17 (Nat.le_of_ble_eq_true rfl) ?_
    refine Cl.mono h (fun r1 M1 h => ?_)
    refine g_if_eq (tgt := 60) dX10_together_55 rfl ⟨fun hc => ?_, fun hc => ?_⟩
    · replace h := h.1 hc
      refine g_aload_n (i := 0) dX10_together_60 rfl rfl ?_
      refine gf_RX10_33 rfl dX10_together_61 sh_0 ?_
      refine g_aload_n (i := 0) dX10_together_64 rfl rfl ?_
      refine gf_RX10_12 rfl dX10_together_65 sh_0 ?_
      refine gc_RX10_194 rfl (Nat.le_of_ble_eq_true rfl) dX10_together_68 sh_17 (Nat.le_of_ble_eq_true rfl) ?_
      refine Cl.mono h (fun r2 M2 h => ?_)
      refine g_iinc (v := (l2 + 1)) (L' := [.ref 0, .int l1, .int (l2 + 1)]) dX10_together_71 rfl rfl (Nat.le_of_ble_eq_true rfl) rfl rfl ?_
      refine g_goto (tgt := 40) dX10_together_74 rfl ?_
      exact h
    · replace h := h.2 hc
      refine g_iload_n (i := 2) dX10_together_58 rfl rfl ?_
      exact g_iret dX10_together_59 rfl h
theorem eX10_together {κ : gK} {M : MM} {Q : Int32 → MM → Prop} (l1 : Int32)
    (h : G κ mX10_together 0 [.ref 0, .int l1, .null] [] M Q) : Cl κ mX10_together [.ref 0, .int l1] M Q := g_entry 1 pl_X10_together (Nat.le_of_ble_eq_true rfl) (L := [.ref 0, .int l1, .null]) rfl (g_sub _ (sub_c (Or.inr rfl) (sub_c (Or.inr rfl) (sub_c (Or.inr rfl) sub_n))) h)
theorem dX10_asNow_0 : decode cX10_asNow 0 = .ok (.aload_n 0, 1) := by decide +kernel
theorem dX10_asNow_1 : decode cX10_asNow 1 = .ok (.getfield 12, 3) := by decide +kernel
theorem dX10_asNow_4 : decode cX10_asNow 4 = .ok (.invokevirtual 197, 3) := by decide +kernel
theorem dX10_asNow_7 : decode cX10_asNow 7 = .ok (.ifCond .ne 6, 3) := by decide +kernel
theorem dX10_asNow_10 : decode cX10_asNow 10 = .ok (.ldc 201, 2) := by decide +kernel
theorem dX10_asNow_12 : decode cX10_asNow 12 = .ok (.ireturn, 1) := by decide +kernel
theorem dX10_asNow_13 : decode cX10_asNow 13 = .ok (.aload_n 0, 1) := by decide +kernel
theorem dX10_asNow_14 : decode cX10_asNow 14 = .ok (.getfield 33, 3) := by decide +kernel
theorem dX10_asNow_17 : decode cX10_asNow 17 = .ok (.aload_n 0, 1) := by decide +kernel
theorem dX10_asNow_18 : decode cX10_asNow 18 = .ok (.getfield 29, 3) := by decide +kernel
theorem dX10_asNow_21 : decode cX10_asNow 21 = .ok (.invokevirtual 212, 3) := by decide +kernel
theorem dX10_asNow_24 : decode cX10_asNow 24 = .ok (.iconst 1, 1) := by decide +kernel
theorem dX10_asNow_25 : decode cX10_asNow 25 = .ok (.istore_n 1, 1) := by decide +kernel
theorem dX10_asNow_26 : decode cX10_asNow 26 = .ok (.iload_n 1, 1) := by decide +kernel
theorem dX10_asNow_27 : decode cX10_asNow 27 = .ok (.sipush 2000, 3) := by decide +kernel
theorem dX10_asNow_30 : decode cX10_asNow 30 = .ok (.if_icmp .gt 36, 3) := by decide +kernel
theorem dX10_asNow_33 : decode cX10_asNow 33 = .ok (.aload_n 0, 1) := by decide +kernel
theorem dX10_asNow_34 : decode cX10_asNow 34 = .ok (.getfield 33, 3) := by decide +kernel
theorem dX10_asNow_37 : decode cX10_asNow 37 = .ok (.aload_n 0, 1) := by decide +kernel
theorem dX10_asNow_38 : decode cX10_asNow 38 = .ok (.getfield 12, 3) := by decide +kernel
theorem dX10_asNow_41 : decode cX10_asNow 41 = .ok (.invokevirtual 194, 3) := by decide +kernel
theorem dX10_asNow_44 : decode cX10_asNow 44 = .ok (.aload_n 0, 1) := by decide +kernel
theorem dX10_asNow_45 : decode cX10_asNow 45 = .ok (.getfield 33, 3) := by decide +kernel
theorem dX10_asNow_48 : decode cX10_asNow 48 = .ok (.aload_n 0, 1) := by decide +kernel
theorem dX10_asNow_49 : decode cX10_asNow 49 = .ok (.getfield 29, 3) := by decide +kernel
theorem dX10_asNow_52 : decode cX10_asNow 52 = .ok (.invokevirtual 220, 3) := by decide +kernel
theorem dX10_asNow_55 : decode cX10_asNow 55 = .ok (.ifCond .eq 5, 3) := by decide +kernel
theorem dX10_asNow_58 : decode cX10_asNow 58 = .ok (.iload_n 1, 1) := by decide +kernel
theorem dX10_asNow_59 : decode cX10_asNow 59 = .ok (.ireturn, 1) := by decide +kernel
theorem dX10_asNow_60 : decode cX10_asNow 60 = .ok (.iinc 1 1, 3) := by decide +kernel
theorem dX10_asNow_63 : decode cX10_asNow 63 = .ok (.goto (-37), 3) := by decide +kernel
theorem dX10_asNow_66 : decode cX10_asNow 66 = .ok (.iconst (-1), 1) := by decide +kernel
theorem dX10_asNow_67 : decode cX10_asNow 67 = .ok (.ireturn, 1) := by decide +kernel
theorem bX10_asNow_0 {κ : gK} {M : MM} {Q : Int32 → MM → Prop} 
    (h : Cl κ mX9_isThere [.ref 1] M (fun r1 M1 => ((r1 = 0 → Q (-1000000003 : Int32) M1) ∧ (¬ r1 = 0 → Cl κ mX8_copyFrom [.ref 17, .ref 13] M1 (fun _ M2 => G κ mX10_asNow 26 [.ref 0, .int (1 : Int32)] [] M2 Q))))) :
    G κ mX10_asNow 0 [.ref 0, .null] [] M Q := by
  refine g_aload_n (i := 0) dX10_asNow_0 rfl rfl ?_
  refine gf_RX10_12 rfl dX10_asNow_1 sh_0 ?_
  refine gc_RX10_197 rfl (Nat.le_of_ble_eq_true rfl) dX10_asNow_4 sh_1 (Nat.le_of_ble_eq_true rfl) ?_
  refine Cl.mono h (fun r1 M1 h => ?_)
  refine g_if_ne (tgt := 13) dX10_asNow_7 rfl ⟨fun hc => ?_, fun hc => ?_⟩
  · replace h := h.1 hc
    refine g_ldc dX10_asNow_10 wt_487 ?_
    exact g_iret dX10_asNow_12 rfl h
  · replace h := h.2 hc
    refine g_aload_n (i := 0) dX10_asNow_13 rfl rfl ?_
    refine gf_RX10_33 rfl dX10_asNow_14 sh_0 ?_
    refine g_aload_n (i := 0) dX10_asNow_17 rfl rfl ?_
    refine gf_RX10_29 rfl dX10_asNow_18 sh_0 ?_
    refine gc_RX10_212 rfl (Nat.le_of_ble_eq_true rfl) dX10_asNow_21 sh_17 (Nat.le_of_ble_eq_true rfl) ?_
    refine Cl.mono h (fun r2 M2 h => ?_)
    refine g_iconst (v := (1 : Int32)) dX10_asNow_24 (by decide) ?_
    refine g_istore_n (i := 1) (L' := [.ref 0, .int (1 : Int32)]) dX10_asNow_25 rfl (Nat.le_of_ble_eq_true rfl) rfl rfl ?_
    exact h
theorem bX10_asNow_26 {κ : gK} {M : MM} {Q : Int32 → MM → Prop} (l1 : Int32)
    (h : (((2000 : Int32) < l1 → Q (-1 : Int32) M) ∧ (¬ (2000 : Int32) < l1 → Cl κ mX8_passDawn [.ref 17, .ref 1] M (fun _ M1 => Cl κ mX8_isWhere [.ref 17, .ref 13] M1 (fun r2 M2 => ((r2 = 0 → G κ mX10_asNow 26 [.ref 0, .int (l1 + 1)] [] M2 Q) ∧ (¬ r2 = 0 → Q l1 M2))))))) :
    G κ mX10_asNow 26 [.ref 0, .int l1] [] M Q := by
  refine g_iload_n (i := 1) dX10_asNow_26 rfl rfl ?_
  refine g_sipush (v := (2000 : Int32)) dX10_asNow_27 (by decide) ?_
  refine g_icmp_gt (tgt := 66) dX10_asNow_30 rfl ⟨fun hc => ?_, fun hc => ?_⟩
  · replace h := h.1 hc
    refine g_iconst (v := (-1 : Int32)) dX10_asNow_66 (by decide) ?_
    exact g_iret dX10_asNow_67 rfl h
  · replace h := h.2 hc
    refine g_aload_n (i := 0) dX10_asNow_33 rfl rfl ?_
    refine gf_RX10_33 rfl dX10_asNow_34 sh_0 ?_
    refine g_aload_n (i := 0) dX10_asNow_37 rfl rfl ?_
    refine gf_RX10_12 rfl dX10_asNow_38 sh_0 ?_
    refine gc_RX10_194 rfl (Nat.le_of_ble_eq_true rfl) dX10_asNow_41 sh_17 (Nat.le_of_ble_eq_true rfl) ?_
    refine Cl.mono h (fun r1 M1 h => ?_)
    refine g_aload_n (i := 0) dX10_asNow_44 rfl rfl ?_
    refine gf_RX10_33 rfl dX10_asNow_45 sh_0 ?_
    refine g_aload_n (i := 0) dX10_asNow_48 rfl rfl ?_
    refine gf_RX10_29 rfl dX10_asNow_49 sh_0 ?_
    refine gc_RX10_220 rfl (Nat.le_of_ble_eq_true rfl) dX10_asNow_52 sh_17 (Nat.le_of_ble_eq_true rfl) ?_
    refine Cl.mono h (fun r2 M2 h => ?_)
    refine g_if_eq (tgt := 60) dX10_asNow_55 rfl ⟨fun hc => ?_, fun hc => ?_⟩
    · replace h := h.1 hc
      refine g_iinc (v := (l1 + 1)) (L' := [.ref 0, .int (l1 + 1)]) dX10_asNow_60 rfl rfl (Nat.le_of_ble_eq_true rfl) rfl rfl ?_
      refine g_goto (tgt := 26) dX10_asNow_63 rfl ?_
      exact h
    · replace h := h.2 hc
      refine g_iload_n (i := 1) dX10_asNow_58 rfl rfl ?_
      exact g_iret dX10_asNow_59 rfl h
theorem eX10_asNow {κ : gK} {M : MM} {Q : Int32 → MM → Prop} 
    (h : G κ mX10_asNow 0 [.ref 0, .null] [] M Q) : Cl κ mX10_asNow [.ref 0] M Q := g_entry 1 pl_X10_asNow (Nat.le_of_ble_eq_true rfl) (L := [.ref 0, .null]) rfl (g_sub _ (sub_c (Or.inr rfl) (sub_c (Or.inr rfl) sub_n)) h)
theorem dX10_crows_0 : decode cX10_crows 0 = .ok (.aload_n 0, 1) := by decide +kernel
theorem dX10_crows_1 : decode cX10_crows 1 = .ok (.getfield 12, 3) := by decide +kernel
theorem dX10_crows_4 : decode cX10_crows 4 = .ok (.iload_n 1, 1) := by decide +kernel
theorem dX10_crows_5 : decode cX10_crows 5 = .ok (.invokevirtual 214, 3) := by decide +kernel
theorem dX10_crows_8 : decode cX10_crows 8 = .ok (.ifCond .ne 6, 3) := by decide +kernel
theorem dX10_crows_11 : decode cX10_crows 11 = .ok (.ldc 167, 2) := by decide +kernel
theorem dX10_crows_13 : decode cX10_crows 13 = .ok (.ireturn, 1) := by decide +kernel
theorem dX10_crows_14 : decode cX10_crows 14 = .ok (.iload_n 2, 1) := by decide +kernel
theorem dX10_crows_15 : decode cX10_crows 15 = .ok (.ifCond .lt 8, 3) := by decide +kernel
theorem dX10_crows_18 : decode cX10_crows 18 = .ok (.iload_n 2, 1) := by decide +kernel
theorem dX10_crows_19 : decode cX10_crows 19 = .ok (.iconst 1, 1) := by decide +kernel
theorem dX10_crows_20 : decode cX10_crows 20 = .ok (.if_icmp .le 6, 3) := by decide +kernel
theorem dX10_crows_23 : decode cX10_crows 23 = .ok (.ldc 92, 2) := by decide +kernel
theorem dX10_crows_25 : decode cX10_crows 25 = .ok (.ireturn, 1) := by decide +kernel
theorem dX10_crows_26 : decode cX10_crows 26 = .ok (.aload_n 0, 1) := by decide +kernel
theorem dX10_crows_27 : decode cX10_crows 27 = .ok (.getfield 12, 3) := by decide +kernel
theorem dX10_crows_30 : decode cX10_crows 30 = .ok (.invokevirtual 197, 3) := by decide +kernel
theorem dX10_crows_33 : decode cX10_crows 33 = .ok (.ifCond .ne 6, 3) := by decide +kernel
theorem dX10_crows_36 : decode cX10_crows 36 = .ok (.ldc 201, 2) := by decide +kernel
theorem dX10_crows_38 : decode cX10_crows 38 = .ok (.ireturn, 1) := by decide +kernel
theorem dX10_crows_39 : decode cX10_crows 39 = .ok (.aload_n 0, 1) := by decide +kernel
theorem dX10_crows_40 : decode cX10_crows 40 = .ok (.getfield 53, 3) := by decide +kernel
theorem dX10_crows_43 : decode cX10_crows 43 = .ok (.aload_n 0, 1) := by decide +kernel
theorem dX10_crows_44 : decode cX10_crows 44 = .ok (.getfield 12, 3) := by decide +kernel
theorem dX10_crows_47 : decode cX10_crows 47 = .ok (.aload_n 0, 1) := by decide +kernel
theorem dX10_crows_48 : decode cX10_crows 48 = .ok (.getfield 29, 3) := by decide +kernel
theorem dX10_crows_51 : decode cX10_crows 51 = .ok (.iload_n 1, 1) := by decide +kernel
theorem dX10_crows_52 : decode cX10_crows 52 = .ok (.invokevirtual 224, 3) := by decide +kernel
theorem dX10_crows_55 : decode cX10_crows 55 = .ok (.istore_n 3, 1) := by decide +kernel
theorem dX10_crows_56 : decode cX10_crows 56 = .ok (.iload_n 2, 1) := by decide +kernel
theorem dX10_crows_57 : decode cX10_crows 57 = .ok (.ifCond .eq 8, 3) := by decide +kernel
theorem dX10_crows_60 : decode cX10_crows 60 = .ok (.iload_n 3, 1) := by decide +kernel
theorem dX10_crows_61 : decode cX10_crows 61 = .ok (.iconst (-1), 1) := by decide +kernel
theorem dX10_crows_62 : decode cX10_crows 62 = .ok (.if_icmp .ne 5, 3) := by decide +kernel
theorem dX10_crows_65 : decode cX10_crows 65 = .ok (.iload_n 3, 1) := by decide +kernel
theorem dX10_crows_66 : decode cX10_crows 66 = .ok (.ireturn, 1) := by decide +kernel
theorem dX10_crows_67 : decode cX10_crows 67 = .ok (.aload_n 0, 1) := by decide +kernel
theorem dX10_crows_68 : decode cX10_crows 68 = .ok (.getfield 53, 3) := by decide +kernel
theorem dX10_crows_71 : decode cX10_crows 71 = .ok (.iload_n 3, 1) := by decide +kernel
theorem dX10_crows_72 : decode cX10_crows 72 = .ok (.invokevirtual 228, 3) := by decide +kernel
theorem dX10_crows_75 : decode cX10_crows 75 = .ok (.ireturn, 1) := by decide +kernel
theorem bX10_crows_0 {κ : gK} {M : MM} {Q : Int32 → MM → Prop} (l1 : Int32) (l2 : Int32)
    (h : Cl κ mX9_hasAll [.ref 1, .int l1] M (fun r1 M1 => ((r1 = 0 → Q (-1000000001 : Int32) M1) ∧ (¬ r1 = 0 → ((l2 < 0 → G κ mX10_crows 23 [.null, .null, .null, .null] [] M1 Q) ∧ (¬ l2 < 0 → ((l2 ≤ (1 : Int32) → Cl κ mX9_isThere [.ref 1] M1 (fun r2 M2 => ((r2 = 0 → Q (-1000000003 : Int32) M2) ∧ (¬ r2 = 0 → Cl κ mX1_fewest [.ref 99, .ref 1, .ref 13, .int l1] M2 (fun r3 M3 => ((l2 = 0 → G κ mX10_crows 65 [.null, .null, .null, .int r3] [] M3 Q) ∧ (¬ l2 = 0 → ((r3 = (-1 : Int32) → G κ mX10_crows 65 [.null, .null, .null, .int r3] [] M3 Q) ∧ (¬ r3 = (-1 : Int32) → Cl κ mX1_figures [.ref 99, .int r3] M3 (fun r4 M4 => Q r4 M4)))))))))) ∧ (¬ l2 ≤ (1 : Int32) → G κ mX10_crows 23 [.null, .null, .null, .null] [] M1 Q)))))))) :
    G κ mX10_crows 0 [.ref 0, .int l1, .int l2, .null] [] M Q := by
  refine g_aload_n (i := 0) dX10_crows_0 rfl rfl ?_
  refine gf_RX10_12 rfl dX10_crows_1 sh_0 ?_
  refine g_iload_n (i := 1) dX10_crows_4 rfl rfl ?_
  refine gc_RX10_214 rfl (Nat.le_of_ble_eq_true rfl) dX10_crows_5 sh_1 (Nat.le_of_ble_eq_true rfl) ?_
  refine Cl.mono h (fun r1 M1 h => ?_)
  refine g_if_ne (tgt := 14) dX10_crows_8 rfl ⟨fun hc => ?_, fun hc => ?_⟩
  · replace h := h.1 hc
    refine g_ldc dX10_crows_11 wt_468 ?_
    exact g_iret dX10_crows_13 rfl h
  · replace h := h.2 hc
    refine g_iload_n (i := 2) dX10_crows_14 rfl rfl ?_
    refine g_if_lt (tgt := 23) dX10_crows_15 rfl ⟨fun hc => ?_, fun hc => ?_⟩
    · replace h := h.1 hc
      exact g_sub _ (sub_c (Or.inl rfl) (sub_c (Or.inl rfl) (sub_c (Or.inl rfl) (sub_c (Or.inr rfl) sub_n)))) h
    · replace h := h.2 hc
      refine g_iload_n (i := 2) dX10_crows_18 rfl rfl ?_
      refine g_iconst (v := (1 : Int32)) dX10_crows_19 (by decide) ?_
      refine g_icmp_le (tgt := 26) dX10_crows_20 rfl ⟨fun hc => ?_, fun hc => ?_⟩
      · replace h := h.1 hc
        refine g_aload_n (i := 0) dX10_crows_26 rfl rfl ?_
        refine gf_RX10_12 rfl dX10_crows_27 sh_0 ?_
        refine gc_RX10_197 rfl (Nat.le_of_ble_eq_true rfl) dX10_crows_30 sh_1 (Nat.le_of_ble_eq_true rfl) ?_
        refine Cl.mono h (fun r2 M2 h => ?_)
        refine g_if_ne (tgt := 39) dX10_crows_33 rfl ⟨fun hc => ?_, fun hc => ?_⟩
        · replace h := h.1 hc
          refine g_ldc dX10_crows_36 wt_487 ?_
          exact g_iret dX10_crows_38 rfl h
        · replace h := h.2 hc
          refine g_aload_n (i := 0) dX10_crows_39 rfl rfl ?_
          refine gf_RX10_53 rfl dX10_crows_40 sh_0 ?_
          refine g_aload_n (i := 0) dX10_crows_43 rfl rfl ?_
          refine gf_RX10_12 rfl dX10_crows_44 sh_0 ?_
          refine g_aload_n (i := 0) dX10_crows_47 rfl rfl ?_
          refine gf_RX10_29 rfl dX10_crows_48 sh_0 ?_
          refine g_iload_n (i := 1) dX10_crows_51 rfl rfl ?_
          refine gc_RX10_224 rfl (Nat.le_of_ble_eq_true rfl) dX10_crows_52 sh_99 (Nat.le_of_ble_eq_true rfl) ?_
          refine Cl.mono h (fun r3 M3 h => ?_)
          refine g_istore_n (i := 3) (L' := [.ref 0, .int l1, .int l2, .int r3]) dX10_crows_55 rfl (Nat.le_of_ble_eq_true rfl) rfl rfl ?_
          refine g_iload_n (i := 2) dX10_crows_56 rfl rfl ?_
          refine g_if_eq (tgt := 65) dX10_crows_57 rfl ⟨fun hc => ?_, fun hc => ?_⟩
          · replace h := h.1 hc
            exact g_sub _ (sub_c (Or.inl rfl) (sub_c (Or.inl rfl) (sub_c (Or.inl rfl) (sub_c (Or.inr rfl) sub_n)))) h
          · replace h := h.2 hc
            refine g_iload_n (i := 3) dX10_crows_60 rfl rfl ?_
            refine g_iconst (v := (-1 : Int32)) dX10_crows_61 (by decide) ?_
            refine g_icmp_ne (tgt := 67) dX10_crows_62 rfl ⟨fun hc => ?_, fun hc => ?_⟩
            · replace h := h.1 hc
              exact g_sub _ (sub_c (Or.inl rfl) (sub_c (Or.inl rfl) (sub_c (Or.inl rfl) (sub_c (Or.inr rfl) sub_n)))) h
            · replace h := h.2 hc
              refine g_aload_n (i := 0) dX10_crows_67 rfl rfl ?_
              refine gf_RX10_53 rfl dX10_crows_68 sh_0 ?_
              refine g_iload_n (i := 3) dX10_crows_71 rfl rfl ?_
              refine gc_RX10_228 rfl (Nat.le_of_ble_eq_true rfl) dX10_crows_72 sh_99 (Nat.le_of_ble_eq_true rfl) ?_
              refine Cl.mono h (fun r4 M4 h => ?_)
              exact g_iret dX10_crows_75 rfl h
      · replace h := h.2 hc
        exact g_sub _ (sub_c (Or.inl rfl) (sub_c (Or.inl rfl) (sub_c (Or.inl rfl) (sub_c (Or.inr rfl) sub_n)))) h
theorem bX10_crows_23 {κ : gK} {M : MM} {Q : Int32 → MM → Prop} 
    (h : Q (-1000000002 : Int32) M) :
    G κ mX10_crows 23 [.null, .null, .null, .null] [] M Q := by
  refine g_ldc dX10_crows_23 wt_309 ?_
  exact g_iret dX10_crows_25 rfl h
theorem bX10_crows_65 {κ : gK} {M : MM} {Q : Int32 → MM → Prop} (l3 : Int32)
    (h : Q l3 M) :
    G κ mX10_crows 65 [.null, .null, .null, .int l3] [] M Q := by
  refine g_iload_n (i := 3) dX10_crows_65 rfl rfl ?_
  exact g_iret dX10_crows_66 rfl h
theorem eX10_crows {κ : gK} {M : MM} {Q : Int32 → MM → Prop} (l1 : Int32) (l2 : Int32)
    (h : G κ mX10_crows 0 [.ref 0, .int l1, .int l2, .null] [] M Q) : Cl κ mX10_crows [.ref 0, .int l1, .int l2] M Q := g_entry 1 pl_X10_crows (Nat.le_of_ble_eq_true rfl) (L := [.ref 0, .int l1, .int l2, .null]) rfl (g_sub _ (sub_c (Or.inr rfl) (sub_c (Or.inr rfl) (sub_c (Or.inr rfl) (sub_c (Or.inr rfl) sub_n)))) h)
theorem dX10_know_0 : decode cX10_know 0 = .ok (.aload_n 0, 1) := by decide +kernel
theorem dX10_know_1 : decode cX10_know 1 = .ok (.getfield 12, 3) := by decide +kernel
theorem dX10_know_4 : decode cX10_know 4 = .ok (.iload_n 1, 1) := by decide +kernel
theorem dX10_know_5 : decode cX10_know 5 = .ok (.invokevirtual 163, 3) := by decide +kernel
theorem dX10_know_8 : decode cX10_know 8 = .ok (.ifCond .ne 6, 3) := by decide +kernel
theorem dX10_know_11 : decode cX10_know 11 = .ok (.ldc 167, 2) := by decide +kernel
theorem dX10_know_13 : decode cX10_know 13 = .ok (.ireturn, 1) := by decide +kernel
theorem dX10_know_14 : decode cX10_know 14 = .ok (.iload_n 2, 1) := by decide +kernel
theorem dX10_know_15 : decode cX10_know 15 = .ok (.ifCond .lt 9, 3) := by decide +kernel
theorem dX10_know_18 : decode cX10_know 18 = .ok (.iload_n 2, 1) := by decide +kernel
theorem dX10_know_19 : decode cX10_know 19 = .ok (.bipush 9, 2) := by decide +kernel
theorem dX10_know_21 : decode cX10_know 21 = .ok (.if_icmp .le 6, 3) := by decide +kernel
theorem dX10_know_24 : decode cX10_know 24 = .ok (.ldc 92, 2) := by decide +kernel
theorem dX10_know_26 : decode cX10_know 26 = .ok (.ireturn, 1) := by decide +kernel
theorem dX10_know_27 : decode cX10_know 27 = .ok (.iconst 1, 1) := by decide +kernel
theorem dX10_know_28 : decode cX10_know 28 = .ok (.iload_n 1, 1) := by decide +kernel
theorem dX10_know_29 : decode cX10_know 29 = .ok (.ishl, 1) := by decide +kernel
theorem dX10_know_30 : decode cX10_know 30 = .ok (.istore_n 3, 1) := by decide +kernel
theorem dX10_know_31 : decode cX10_know 31 = .ok (.iconst 0, 1) := by decide +kernel
theorem dX10_know_32 : decode cX10_know 32 = .ok (.istore 4, 2) := by decide +kernel
theorem dX10_know_34 : decode cX10_know 34 = .ok (.iload 4, 2) := by decide +kernel
theorem dX10_know_36 : decode cX10_know 36 = .ok (.iload_n 2, 1) := by decide +kernel
theorem dX10_know_37 : decode cX10_know 37 = .ok (.if_icmp .ge 45, 3) := by decide +kernel
theorem dX10_know_40 : decode cX10_know 40 = .ok (.aload_n 0, 1) := by decide +kernel
theorem dX10_know_41 : decode cX10_know 41 = .ok (.getfield 12, 3) := by decide +kernel
theorem dX10_know_44 : decode cX10_know 44 = .ok (.aload_n 0, 1) := by decide +kernel
theorem dX10_know_45 : decode cX10_know 45 = .ok (.getfield 29, 3) := by decide +kernel
theorem dX10_know_48 : decode cX10_know 48 = .ok (.iload_n 3, 1) := by decide +kernel
theorem dX10_know_49 : decode cX10_know 49 = .ok (.invokevirtual 231, 3) := by decide +kernel
theorem dX10_know_52 : decode cX10_know 52 = .ok (.aload_n 0, 1) := by decide +kernel
theorem dX10_know_53 : decode cX10_know 53 = .ok (.getfield 12, 3) := by decide +kernel
theorem dX10_know_56 : decode cX10_know 56 = .ok (.getfield 129, 3) := by decide +kernel
theorem dX10_know_59 : decode cX10_know 59 = .ok (.invokevirtual 141, 3) := by decide +kernel
theorem dX10_know_62 : decode cX10_know 62 = .ok (.istore 5, 2) := by decide +kernel
theorem dX10_know_64 : decode cX10_know 64 = .ok (.iload_n 3, 1) := by decide +kernel
theorem dX10_know_65 : decode cX10_know 65 = .ok (.aload_n 0, 1) := by decide +kernel
theorem dX10_know_66 : decode cX10_know 66 = .ok (.getfield 29, 3) := by decide +kernel
theorem dX10_know_69 : decode cX10_know 69 = .ok (.iload 5, 2) := by decide +kernel
theorem dX10_know_71 : decode cX10_know 71 = .ok (.invokevirtual 181, 3) := by decide +kernel
theorem dX10_know_74 : decode cX10_know 74 = .ok (.ior, 1) := by decide +kernel
theorem dX10_know_75 : decode cX10_know 75 = .ok (.istore_n 3, 1) := by decide +kernel
theorem dX10_know_76 : decode cX10_know 76 = .ok (.iinc 4 1, 3) := by decide +kernel
theorem dX10_know_79 : decode cX10_know 79 = .ok (.goto (-45), 3) := by decide +kernel
theorem dX10_know_82 : decode cX10_know 82 = .ok (.iload_n 3, 1) := by decide +kernel
theorem dX10_know_83 : decode cX10_know 83 = .ok (.ireturn, 1) := by decide +kernel
theorem bX10_know_0 {κ : gK} {M : MM} {Q : Int32 → MM → Prop} (l1 : Int32) (l2 : Int32)
    (h : Cl κ mX9_hasPerson [.ref 1, .int l1] M (fun r1 M1 => ((r1 = 0 → Q (-1000000001 : Int32) M1) ∧ (¬ r1 = 0 → ((l2 < 0 → G κ mX10_know 24 [.null, .null, .null, .null, .null, .null] [] M1 Q) ∧ (¬ l2 < 0 → ((l2 ≤ (9 : Int32) → G κ mX10_know 34 [.ref 0, .null, .int l2, .int (jshl (1 : Int32) l1), .int (0 : Int32), .null] [] M1 Q) ∧ (¬ l2 ≤ (9 : Int32) → G κ mX10_know 24 [.null, .null, .null, .null, .null, .null] [] M1 Q)))))))) :
    G κ mX10_know 0 [.ref 0, .int l1, .int l2, .null, .null, .null] [] M Q := by
  refine g_aload_n (i := 0) dX10_know_0 rfl rfl ?_
  refine gf_RX10_12 rfl dX10_know_1 sh_0 ?_
  refine g_iload_n (i := 1) dX10_know_4 rfl rfl ?_
  refine gc_RX10_163 rfl (Nat.le_of_ble_eq_true rfl) dX10_know_5 sh_1 (Nat.le_of_ble_eq_true rfl) ?_
  refine Cl.mono h (fun r1 M1 h => ?_)
  refine g_if_ne (tgt := 14) dX10_know_8 rfl ⟨fun hc => ?_, fun hc => ?_⟩
  · replace h := h.1 hc
    refine g_ldc dX10_know_11 wt_468 ?_
    exact g_iret dX10_know_13 rfl h
  · replace h := h.2 hc
    refine g_iload_n (i := 2) dX10_know_14 rfl rfl ?_
    refine g_if_lt (tgt := 24) dX10_know_15 rfl ⟨fun hc => ?_, fun hc => ?_⟩
    · replace h := h.1 hc
      exact g_sub _ (sub_c (Or.inl rfl) (sub_c (Or.inl rfl) (sub_c (Or.inl rfl) (sub_c (Or.inr rfl) (sub_c (Or.inr rfl) (sub_c (Or.inr rfl) sub_n)))))) h
    · replace h := h.2 hc
      refine g_iload_n (i := 2) dX10_know_18 rfl rfl ?_
      refine g_bipush (v := (9 : Int32)) dX10_know_19 (by decide) ?_
      refine g_icmp_le (tgt := 27) dX10_know_21 rfl ⟨fun hc => ?_, fun hc => ?_⟩
      · replace h := h.1 hc
        refine g_iconst (v := (1 : Int32)) dX10_know_27 (by decide) ?_
        refine g_iload_n (i := 1) dX10_know_28 rfl rfl ?_
        refine g_ishl dX10_know_29 ?_
        refine g_istore_n (i := 3) (L' := [.ref 0, .int l1, .int l2, .int (jshl (1 : Int32) l1), .null, .null]) dX10_know_30 rfl (Nat.le_of_ble_eq_true rfl) rfl rfl ?_
        refine g_iconst (v := (0 : Int32)) dX10_know_31 (by decide) ?_
        refine g_istore (i := 4) (L' := [.ref 0, .int l1, .int l2, .int (jshl (1 : Int32) l1), .int (0 : Int32), .null]) dX10_know_32 (Nat.le_of_ble_eq_true rfl) rfl rfl ?_
        exact g_sub _ (sub_c (Or.inr rfl) (sub_c (Or.inl rfl) (sub_c (Or.inr rfl) (sub_c (Or.inr rfl) (sub_c (Or.inr rfl) (sub_c (Or.inr rfl) sub_n)))))) h
      · replace h := h.2 hc
        exact g_sub _ (sub_c (Or.inl rfl) (sub_c (Or.inl rfl) (sub_c (Or.inl rfl) (sub_c (Or.inr rfl) (sub_c (Or.inr rfl) (sub_c (Or.inr rfl) sub_n)))))) h
theorem bX10_know_24 {κ : gK} {M : MM} {Q : Int32 → MM → Prop} 
    (h : Q (-1000000002 : Int32) M) :
    G κ mX10_know 24 [.null, .null, .null, .null, .null, .null] [] M Q := by
  refine g_ldc dX10_know_24 wt_309 ?_
  exact g_iret dX10_know_26 rfl h
theorem bX10_know_34 {κ : gK} {M : MM} {Q : Int32 → MM → Prop} (l2 : Int32) (l3 : Int32) (l4 : Int32)
    (h : ((l2 ≤ l4 → Q l3 M) ∧ (¬ l2 ≤ l4 → Cl κ mX8_layersOf [.ref 13, .int l3] M (fun r1 M1 => Cl κ mX9_goneOn [.ref 1, .int r1, .int (M1 1 5)] M1 (fun r2 M2 => Cl κ mX8_whoIsOn [.ref 13, .int r2] M2 (fun r3 M3 => G κ mX10_know 34 [.ref 0, .null, .int l2, .int (l3 ||| r3), .int (l4 + 1), .null] [] M3 Q)))))) :
    G κ mX10_know 34 [.ref 0, .null, .int l2, .int l3, .int l4, .null] [] M Q := by
  refine g_iload (i := 4) dX10_know_34 rfl ?_
  refine g_iload_n (i := 2) dX10_know_36 rfl rfl ?_
  refine g_icmp_ge (tgt := 82) dX10_know_37 rfl ⟨fun hc => ?_, fun hc => ?_⟩
  · replace h := h.1 hc
    refine g_iload_n (i := 3) dX10_know_82 rfl rfl ?_
    exact g_iret dX10_know_83 rfl h
  · replace h := h.2 hc
    refine g_aload_n (i := 0) dX10_know_40 rfl rfl ?_
    refine gf_RX10_12 rfl dX10_know_41 sh_0 ?_
    refine g_aload_n (i := 0) dX10_know_44 rfl rfl ?_
    refine gf_RX10_29 rfl dX10_know_45 sh_0 ?_
    refine g_iload_n (i := 3) dX10_know_48 rfl rfl ?_
    refine gc_RX10_231 rfl (Nat.le_of_ble_eq_true rfl) dX10_know_49 sh_13 (Nat.le_of_ble_eq_true rfl) ?_
    refine Cl.mono h (fun r1 M1 h => ?_)
    refine g_aload_n (i := 0) dX10_know_52 rfl rfl ?_
    refine gf_RX10_12 rfl dX10_know_53 sh_0 ?_
    refine gf_RX10_129 rfl dX10_know_56 sh_1 ?_
    refine gc_RX10_141 rfl (Nat.le_of_ble_eq_true rfl) dX10_know_59 sh_1 (Nat.le_of_ble_eq_true rfl) ?_
    refine Cl.mono h (fun r2 M2 h => ?_)
    refine g_istore (i := 5) (L' := [.ref 0, .null, .int l2, .int l3, .int l4, .int r2]) dX10_know_62 (Nat.le_of_ble_eq_true rfl) rfl rfl ?_
    refine g_iload_n (i := 3) dX10_know_64 rfl rfl ?_
    refine g_aload_n (i := 0) dX10_know_65 rfl rfl ?_
    refine gf_RX10_29 rfl dX10_know_66 sh_0 ?_
    refine g_iload (i := 5) dX10_know_69 rfl ?_
    refine gc_RX10_181 rfl (Nat.le_of_ble_eq_true rfl) dX10_know_71 sh_13 (Nat.le_of_ble_eq_true rfl) ?_
    refine Cl.mono h (fun r3 M3 h => ?_)
    refine g_ior dX10_know_74 ?_
    refine g_istore_n (i := 3) (L' := [.ref 0, .null, .int l2, .int (l3 ||| r3), .int l4, .int r2]) dX10_know_75 rfl (Nat.le_of_ble_eq_true rfl) rfl rfl ?_
    refine g_iinc (v := (l4 + 1)) (L' := [.ref 0, .null, .int l2, .int (l3 ||| r3), .int (l4 + 1), .int r2]) dX10_know_76 rfl rfl (Nat.le_of_ble_eq_true rfl) rfl rfl ?_
    refine g_goto (tgt := 34) dX10_know_79 rfl ?_
    exact g_sub _ (sub_c (Or.inr rfl) (sub_c (Or.inr rfl) (sub_c (Or.inr rfl) (sub_c (Or.inr rfl) (sub_c (Or.inr rfl) (sub_c (Or.inl rfl) sub_n)))))) h
theorem eX10_know {κ : gK} {M : MM} {Q : Int32 → MM → Prop} (l1 : Int32) (l2 : Int32)
    (h : G κ mX10_know 0 [.ref 0, .int l1, .int l2, .null, .null, .null] [] M Q) : Cl κ mX10_know [.ref 0, .int l1, .int l2] M Q := g_entry 3 pl_X10_know (Nat.le_of_ble_eq_true rfl) (L := [.ref 0, .int l1, .int l2, .null, .null, .null]) rfl (g_sub _ (sub_c (Or.inr rfl) (sub_c (Or.inr rfl) (sub_c (Or.inr rfl) (sub_c (Or.inr rfl) (sub_c (Or.inr rfl) (sub_c (Or.inr rfl) sub_n)))))) h)
theorem dX10_market_0 : decode cX10_market 0 = .ok (.iload_n 1, 1) := by decide +kernel
theorem dX10_market_1 : decode cX10_market 1 = .ok (.iconst (-1), 1) := by decide +kernel
theorem dX10_market_2 : decode cX10_market 2 = .ok (.if_icmp .eq 17, 3) := by decide +kernel
theorem dX10_market_5 : decode cX10_market 5 = .ok (.aload_n 0, 1) := by decide +kernel
theorem dX10_market_6 : decode cX10_market 6 = .ok (.getfield 12, 3) := by decide +kernel
theorem dX10_market_9 : decode cX10_market 9 = .ok (.iload_n 1, 1) := by decide +kernel
theorem dX10_market_10 : decode cX10_market 10 = .ok (.invokevirtual 184, 3) := by decide +kernel
theorem dX10_market_13 : decode cX10_market 13 = .ok (.ifCond .ne 6, 3) := by decide +kernel
theorem dX10_market_16 : decode cX10_market 16 = .ok (.ldc 167, 2) := by decide +kernel
theorem dX10_market_18 : decode cX10_market 18 = .ok (.ireturn, 1) := by decide +kernel
theorem dX10_market_19 : decode cX10_market 19 = .ok (.aload_n 0, 1) := by decide +kernel
theorem dX10_market_20 : decode cX10_market 20 = .ok (.getfield 60, 3) := by decide +kernel
theorem dX10_market_23 : decode cX10_market 23 = .ok (.aload_n 0, 1) := by decide +kernel
theorem dX10_market_24 : decode cX10_market 24 = .ok (.getfield 29, 3) := by decide +kernel
theorem dX10_market_27 : decode cX10_market 27 = .ok (.invokevirtual 234, 3) := by decide +kernel
theorem dX10_market_30 : decode cX10_market 30 = .ok (.istore_n 2, 1) := by decide +kernel
theorem dX10_market_31 : decode cX10_market 31 = .ok (.iload_n 1, 1) := by decide +kernel
theorem dX10_market_32 : decode cX10_market 32 = .ok (.iconst (-1), 1) := by decide +kernel
theorem dX10_market_33 : decode cX10_market 33 = .ok (.if_icmp .ne 7, 3) := by decide +kernel
theorem dX10_market_36 : decode cX10_market 36 = .ok (.iload_n 2, 1) := by decide +kernel
theorem dX10_market_37 : decode cX10_market 37 = .ok (.goto 12, 3) := by decide +kernel
theorem dX10_market_40 : decode cX10_market 40 = .ok (.aload_n 0, 1) := by decide +kernel
theorem dX10_market_41 : decode cX10_market 41 = .ok (.getfield 60, 3) := by decide +kernel
theorem dX10_market_44 : decode cX10_market 44 = .ok (.getfield 238, 3) := by decide +kernel
theorem dX10_market_47 : decode cX10_market 47 = .ok (.iload_n 1, 1) := by decide +kernel
theorem dX10_market_48 : decode cX10_market 48 = .ok (.iaload, 1) := by decide +kernel
theorem dX10_market_49 : decode cX10_market 49 = .ok (.ireturn, 1) := by decide +kernel
theorem bX10_market_0 {κ : gK} {M : MM} {Q : Int32 → MM → Prop} (l1 : Int32)
    (h : ((l1 = (-1 : Int32) → G κ mX10_market 19 [.ref 0, .int l1, .null] [] M Q) ∧ (¬ l1 = (-1 : Int32) → Cl κ mX9_hasLayer [.ref 1, .int l1] M (fun r1 M1 => ((r1 = 0 → Q (-1000000001 : Int32) M1) ∧ (¬ r1 = 0 → G κ mX10_market 19 [.ref 0, .int l1, .null] [] M1 Q)))))) :
    G κ mX10_market 0 [.ref 0, .int l1, .null] [] M Q := by
  refine g_iload_n (i := 1) dX10_market_0 rfl rfl ?_
  refine g_iconst (v := (-1 : Int32)) dX10_market_1 (by decide) ?_
  refine g_icmp_eq (tgt := 19) dX10_market_2 rfl ⟨fun hc => ?_, fun hc => ?_⟩
  · replace h := h.1 hc
    exact h
  · replace h := h.2 hc
    refine g_aload_n (i := 0) dX10_market_5 rfl rfl ?_
    refine gf_RX10_12 rfl dX10_market_6 sh_0 ?_
    refine g_iload_n (i := 1) dX10_market_9 rfl rfl ?_
    refine gc_RX10_184 rfl (Nat.le_of_ble_eq_true rfl) dX10_market_10 sh_1 (Nat.le_of_ble_eq_true rfl) ?_
    refine Cl.mono h (fun r1 M1 h => ?_)
    refine g_if_ne (tgt := 19) dX10_market_13 rfl ⟨fun hc => ?_, fun hc => ?_⟩
    · replace h := h.1 hc
      refine g_ldc dX10_market_16 wt_468 ?_
      exact g_iret dX10_market_18 rfl h
    · replace h := h.2 hc
      exact h
theorem bX10_market_19 {κ : gK} {M : MM} {Q : Int32 → MM → Prop} (l1 : Int32)
    (h : Cl κ mX7_share [.ref 102, .ref 13] M (fun r1 M1 => ((l1 = (-1 : Int32) → G κ mX10_market 49 [.null, .null, .null] [.int r1] M1 Q) ∧ (¬ l1 = (-1 : Int32) → (vp_in l1 9) ∧ (G κ mX10_market 49 [.null, .null, .null] [.int (M1 104 (l1).toNatClampNeg)] M1 Q))))) :
    G κ mX10_market 19 [.ref 0, .int l1, .null] [] M Q := by
  refine g_aload_n (i := 0) dX10_market_19 rfl rfl ?_
  refine gf_RX10_60 rfl dX10_market_20 sh_0 ?_
  refine g_aload_n (i := 0) dX10_market_23 rfl rfl ?_
  refine gf_RX10_29 rfl dX10_market_24 sh_0 ?_
  refine gc_RX10_234 rfl (Nat.le_of_ble_eq_true rfl) dX10_market_27 sh_102 (Nat.le_of_ble_eq_true rfl) ?_
  refine Cl.mono h (fun r1 M1 h => ?_)
  refine g_istore_n (i := 2) (L' := [.ref 0, .int l1, .int r1]) dX10_market_30 rfl (Nat.le_of_ble_eq_true rfl) rfl rfl ?_
  refine g_iload_n (i := 1) dX10_market_31 rfl rfl ?_
  refine g_iconst (v := (-1 : Int32)) dX10_market_32 (by decide) ?_
  refine g_icmp_ne (tgt := 40) dX10_market_33 rfl ⟨fun hc => ?_, fun hc => ?_⟩
  · replace h := h.1 hc
    refine g_iload_n (i := 2) dX10_market_36 rfl rfl ?_
    refine g_goto (tgt := 49) dX10_market_37 rfl ?_
    exact g_sub _ (sub_c (Or.inl rfl) (sub_c (Or.inl rfl) (sub_c (Or.inl rfl) sub_n))) h
  · replace h := h.2 hc
    refine g_aload_n (i := 0) dX10_market_40 rfl rfl ?_
    refine gf_RX10_60 rfl dX10_market_41 sh_0 ?_
    refine gf_RX10_238 rfl dX10_market_44 sh_102 ?_
    refine g_iload_n (i := 1) dX10_market_47 rfl rfl ?_
    have hv1 := h.1; replace h := h.2
    refine g_iald dX10_market_48 sh_104 hv1 ?_
    exact g_sub _ (sub_c (Or.inl rfl) (sub_c (Or.inl rfl) (sub_c (Or.inl rfl) sub_n))) h
theorem bX10_market_49 {κ : gK} {M : MM} {Q : Int32 → MM → Prop} (s0 : Int32)
    (h : Q s0 M) :
    G κ mX10_market 49 [.null, .null, .null] [.int s0] M Q := by
  exact g_iret dX10_market_49 rfl h
theorem eX10_market {κ : gK} {M : MM} {Q : Int32 → MM → Prop} (l1 : Int32)
    (h : G κ mX10_market 0 [.ref 0, .int l1, .null] [] M Q) : Cl κ mX10_market [.ref 0, .int l1] M Q := g_entry 1 pl_X10_market (Nat.le_of_ble_eq_true rfl) (L := [.ref 0, .int l1, .null]) rfl (g_sub _ (sub_c (Or.inr rfl) (sub_c (Or.inr rfl) (sub_c (Or.inr rfl) sub_n))) h)
theorem dX10_torn_0 : decode cX10_torn 0 = .ok (.aload_n 0, 1) := by decide +kernel
theorem dX10_torn_1 : decode cX10_torn 1 = .ok (.getfield 12, 3) := by decide +kernel
theorem dX10_torn_4 : decode cX10_torn 4 = .ok (.iload_n 1, 1) := by decide +kernel
theorem dX10_torn_5 : decode cX10_torn 5 = .ok (.invokevirtual 184, 3) := by decide +kernel
theorem dX10_torn_8 : decode cX10_torn 8 = .ok (.ifCond .eq 19, 3) := by decide +kernel
theorem dX10_torn_11 : decode cX10_torn 11 = .ok (.aload_n 0, 1) := by decide +kernel
theorem dX10_torn_12 : decode cX10_torn 12 = .ok (.getfield 12, 3) := by decide +kernel
theorem dX10_torn_15 : decode cX10_torn 15 = .ok (.iload_n 2, 1) := by decide +kernel
theorem dX10_torn_16 : decode cX10_torn 16 = .ok (.invokevirtual 184, 3) := by decide +kernel
theorem dX10_torn_19 : decode cX10_torn 19 = .ok (.ifCond .eq 8, 3) := by decide +kernel
theorem dX10_torn_22 : decode cX10_torn 22 = .ok (.iload_n 1, 1) := by decide +kernel
theorem dX10_torn_23 : decode cX10_torn 23 = .ok (.iload_n 2, 1) := by decide +kernel
theorem dX10_torn_24 : decode cX10_torn 24 = .ok (.if_icmp .ne 6, 3) := by decide +kernel
theorem dX10_torn_27 : decode cX10_torn 27 = .ok (.ldc 167, 2) := by decide +kernel
theorem dX10_torn_29 : decode cX10_torn 29 = .ok (.ireturn, 1) := by decide +kernel
theorem dX10_torn_30 : decode cX10_torn 30 = .ok (.aload_n 0, 1) := by decide +kernel
theorem dX10_torn_31 : decode cX10_torn 31 = .ok (.getfield 29, 3) := by decide +kernel
theorem dX10_torn_34 : decode cX10_torn 34 = .ok (.iconst 1, 1) := by decide +kernel
theorem dX10_torn_35 : decode cX10_torn 35 = .ok (.iload_n 1, 1) := by decide +kernel
theorem dX10_torn_36 : decode cX10_torn 36 = .ok (.ishl, 1) := by decide +kernel
theorem dX10_torn_37 : decode cX10_torn 37 = .ok (.invokevirtual 181, 3) := by decide +kernel
theorem dX10_torn_40 : decode cX10_torn 40 = .ok (.aload_n 0, 1) := by decide +kernel
theorem dX10_torn_41 : decode cX10_torn 41 = .ok (.getfield 29, 3) := by decide +kernel
theorem dX10_torn_44 : decode cX10_torn 44 = .ok (.iconst 1, 1) := by decide +kernel
theorem dX10_torn_45 : decode cX10_torn 45 = .ok (.iload_n 2, 1) := by decide +kernel
theorem dX10_torn_46 : decode cX10_torn 46 = .ok (.ishl, 1) := by decide +kernel
theorem dX10_torn_47 : decode cX10_torn 47 = .ok (.invokevirtual 181, 3) := by decide +kernel
theorem dX10_torn_50 : decode cX10_torn 50 = .ok (.iand, 1) := by decide +kernel
theorem dX10_torn_51 : decode cX10_torn 51 = .ok (.ireturn, 1) := by decide +kernel
theorem bX10_torn_0 {κ : gK} {M : MM} {Q : Int32 → MM → Prop} (l1 : Int32) (l2 : Int32)
    (h : Cl κ mX9_hasLayer [.ref 1, .int l1] M (fun r1 M1 => ((r1 = 0 → G κ mX10_torn 27 [.null, .null, .null] [] M1 Q) ∧ (¬ r1 = 0 → Cl κ mX9_hasLayer [.ref 1, .int l2] M1 (fun r2 M2 => ((r2 = 0 → G κ mX10_torn 27 [.null, .null, .null] [] M2 Q) ∧ (¬ r2 = 0 → ((l1 = l2 → G κ mX10_torn 27 [.null, .null, .null] [] M2 Q) ∧ (¬ l1 = l2 → Cl κ mX8_whoIsOn [.ref 13, .int (jshl (1 : Int32) l1)] M2 (fun r3 M3 => Cl κ mX8_whoIsOn [.ref 13, .int (jshl (1 : Int32) l2)] M3 (fun r4 M4 => Q (r3 &&& r4) M4))))))))))) :
    G κ mX10_torn 0 [.ref 0, .int l1, .int l2] [] M Q := by
  refine g_aload_n (i := 0) dX10_torn_0 rfl rfl ?_
  refine gf_RX10_12 rfl dX10_torn_1 sh_0 ?_
  refine g_iload_n (i := 1) dX10_torn_4 rfl rfl ?_
  refine gc_RX10_184 rfl (Nat.le_of_ble_eq_true rfl) dX10_torn_5 sh_1 (Nat.le_of_ble_eq_true rfl) ?_
  refine Cl.mono h (fun r1 M1 h => ?_)
  refine g_if_eq (tgt := 27) dX10_torn_8 rfl ⟨fun hc => ?_, fun hc => ?_⟩
  · replace h := h.1 hc
    exact g_sub _ (sub_c (Or.inl rfl) (sub_c (Or.inl rfl) (sub_c (Or.inl rfl) sub_n))) h
  · replace h := h.2 hc
    refine g_aload_n (i := 0) dX10_torn_11 rfl rfl ?_
    refine gf_RX10_12 rfl dX10_torn_12 sh_0 ?_
    refine g_iload_n (i := 2) dX10_torn_15 rfl rfl ?_
    refine gc_RX10_184 rfl (Nat.le_of_ble_eq_true rfl) dX10_torn_16 sh_1 (Nat.le_of_ble_eq_true rfl) ?_
    refine Cl.mono h (fun r2 M2 h => ?_)
    refine g_if_eq (tgt := 27) dX10_torn_19 rfl ⟨fun hc => ?_, fun hc => ?_⟩
    · replace h := h.1 hc
      exact g_sub _ (sub_c (Or.inl rfl) (sub_c (Or.inl rfl) (sub_c (Or.inl rfl) sub_n))) h
    · replace h := h.2 hc
      refine g_iload_n (i := 1) dX10_torn_22 rfl rfl ?_
      refine g_iload_n (i := 2) dX10_torn_23 rfl rfl ?_
      refine g_icmp_ne (tgt := 30) dX10_torn_24 rfl ⟨fun hc => ?_, fun hc => ?_⟩
      · replace h := h.1 hc
        exact g_sub _ (sub_c (Or.inl rfl) (sub_c (Or.inl rfl) (sub_c (Or.inl rfl) sub_n))) h
      · replace h := h.2 hc
        refine g_aload_n (i := 0) dX10_torn_30 rfl rfl ?_
        refine gf_RX10_29 rfl dX10_torn_31 sh_0 ?_
        refine g_iconst (v := (1 : Int32)) dX10_torn_34 (by decide) ?_
        refine g_iload_n (i := 1) dX10_torn_35 rfl rfl ?_
        refine g_ishl dX10_torn_36 ?_
        refine gc_RX10_181 rfl (Nat.le_of_ble_eq_true rfl) dX10_torn_37 sh_13 (Nat.le_of_ble_eq_true rfl) ?_
        refine Cl.mono h (fun r3 M3 h => ?_)
        refine g_aload_n (i := 0) dX10_torn_40 rfl rfl ?_
        refine gf_RX10_29 rfl dX10_torn_41 sh_0 ?_
        refine g_iconst (v := (1 : Int32)) dX10_torn_44 (by decide) ?_
        refine g_iload_n (i := 2) dX10_torn_45 rfl rfl ?_
        refine g_ishl dX10_torn_46 ?_
        refine gc_RX10_181 rfl (Nat.le_of_ble_eq_true rfl) dX10_torn_47 sh_13 (Nat.le_of_ble_eq_true rfl) ?_
        refine Cl.mono h (fun r4 M4 h => ?_)
        refine g_iand dX10_torn_50 ?_
        exact g_iret dX10_torn_51 rfl h
theorem bX10_torn_27 {κ : gK} {M : MM} {Q : Int32 → MM → Prop} 
    (h : Q (-1000000001 : Int32) M) :
    G κ mX10_torn 27 [.null, .null, .null] [] M Q := by
  refine g_ldc dX10_torn_27 wt_468 ?_
  exact g_iret dX10_torn_29 rfl h
theorem eX10_torn {κ : gK} {M : MM} {Q : Int32 → MM → Prop} (l1 : Int32) (l2 : Int32)
    (h : G κ mX10_torn 0 [.ref 0, .int l1, .int l2] [] M Q) : Cl κ mX10_torn [.ref 0, .int l1, .int l2] M Q := g_entry 0 pl_X10_torn (Nat.le_of_ble_eq_true rfl) (L := [.ref 0, .int l1, .int l2]) rfl (g_sub _ (sub_c (Or.inr rfl) (sub_c (Or.inr rfl) (sub_c (Or.inr rfl) sub_n))) h)
theorem dX10_dark_0 : decode cX10_dark 0 = .ok (.iload_n 1, 1) := by decide +kernel
theorem dX10_dark_1 : decode cX10_dark 1 = .ok (.ifCond .lt 19, 3) := by decide +kernel
theorem dX10_dark_4 : decode cX10_dark 4 = .ok (.iload_n 1, 1) := by decide +kernel
theorem dX10_dark_5 : decode cX10_dark 5 = .ok (.bipush 60, 2) := by decide +kernel
theorem dX10_dark_7 : decode cX10_dark 7 = .ok (.if_icmp .gt 13, 3) := by decide +kernel
theorem dX10_dark_10 : decode cX10_dark 10 = .ok (.iload_n 2, 1) := by decide +kernel
theorem dX10_dark_11 : decode cX10_dark 11 = .ok (.ifCond .lt 9, 3) := by decide +kernel
theorem dX10_dark_14 : decode cX10_dark 14 = .ok (.iload_n 2, 1) := by decide +kernel
theorem dX10_dark_15 : decode cX10_dark 15 = .ok (.bipush 100, 2) := by decide +kernel
theorem dX10_dark_17 : decode cX10_dark 17 = .ok (.if_icmp .le 6, 3) := by decide +kernel
theorem dX10_dark_20 : decode cX10_dark 20 = .ok (.ldc 92, 2) := by decide +kernel
theorem dX10_dark_22 : decode cX10_dark 22 = .ok (.ireturn, 1) := by decide +kernel
theorem dX10_dark_23 : decode cX10_dark 23 = .ok (.ldc2_w 241, 3) := by decide +kernel
theorem dX10_dark_26 : decode cX10_dark 26 = .ok (.lstore_n 3, 1) := by decide +kernel
theorem dX10_dark_27 : decode cX10_dark 27 = .ok (.iconst 0, 1) := by decide +kernel
theorem dX10_dark_28 : decode cX10_dark 28 = .ok (.istore 5, 2) := by decide +kernel
theorem dX10_dark_30 : decode cX10_dark 30 = .ok (.iload 5, 2) := by decide +kernel
theorem dX10_dark_32 : decode cX10_dark 32 = .ok (.iload_n 1, 1) := by decide +kernel
theorem dX10_dark_33 : decode cX10_dark 33 = .ok (.if_icmp .ge 18, 3) := by decide +kernel
theorem dX10_dark_36 : decode cX10_dark 36 = .ok (.lload_n 3, 1) := by decide +kernel
theorem dX10_dark_37 : decode cX10_dark 37 = .ok (.iload_n 2, 1) := by decide +kernel
theorem dX10_dark_38 : decode cX10_dark 38 = .ok (.i2l, 1) := by decide +kernel
theorem dX10_dark_39 : decode cX10_dark 39 = .ok (.lmul, 1) := by decide +kernel
theorem dX10_dark_40 : decode cX10_dark 40 = .ok (.ldc2_w 243, 3) := by decide +kernel
theorem dX10_dark_43 : decode cX10_dark 43 = .ok (.ldiv, 1) := by decide +kernel
theorem dX10_dark_44 : decode cX10_dark 44 = .ok (.lstore_n 3, 1) := by decide +kernel
theorem dX10_dark_45 : decode cX10_dark 45 = .ok (.iinc 5 1, 3) := by decide +kernel
theorem dX10_dark_48 : decode cX10_dark 48 = .ok (.goto (-18), 3) := by decide +kernel
theorem dX10_dark_51 : decode cX10_dark 51 = .ok (.lload_n 3, 1) := by decide +kernel
theorem dX10_dark_52 : decode cX10_dark 52 = .ok (.l2i, 1) := by decide +kernel
theorem dX10_dark_53 : decode cX10_dark 53 = .ok (.ireturn, 1) := by decide +kernel
theorem bX10_dark_0 {κ : gK} {M : MM} {Q : Int32 → MM → Prop} (l1 : Int32) (l2 : Int32)
    (h : ((l1 < 0 → G κ mX10_dark 20 [.null, .null, .null, .null, .null, .null] [] M Q) ∧ (¬ l1 < 0 → (((60 : Int32) < l1 → G κ mX10_dark 20 [.null, .null, .null, .null, .null, .null] [] M Q) ∧ (¬ (60 : Int32) < l1 → ((l2 < 0 → G κ mX10_dark 20 [.null, .null, .null, .null, .null, .null] [] M Q) ∧ (¬ l2 < 0 → ((l2 ≤ (100 : Int32) → G κ mX10_dark 30 [.null, .int l1, .int l2, .long (1000000000 : Int64), .null, .int (0 : Int32)] [] M Q) ∧ (¬ l2 ≤ (100 : Int32) → G κ mX10_dark 20 [.null, .null, .null, .null, .null, .null] [] M Q))))))))) :
    G κ mX10_dark 0 [.null, .int l1, .int l2, .null, .null, .null] [] M Q := by
  refine g_iload_n (i := 1) dX10_dark_0 rfl rfl ?_
  refine g_if_lt (tgt := 20) dX10_dark_1 rfl ⟨fun hc => ?_, fun hc => ?_⟩
  · replace h := h.1 hc
    exact g_sub _ (sub_c (Or.inr rfl) (sub_c (Or.inl rfl) (sub_c (Or.inl rfl) (sub_c (Or.inr rfl) (sub_c (Or.inr rfl) (sub_c (Or.inr rfl) sub_n)))))) h
  · replace h := h.2 hc
    refine g_iload_n (i := 1) dX10_dark_4 rfl rfl ?_
    refine g_bipush (v := (60 : Int32)) dX10_dark_5 (by decide) ?_
    refine g_icmp_gt (tgt := 20) dX10_dark_7 rfl ⟨fun hc => ?_, fun hc => ?_⟩
    · replace h := h.1 hc
      exact g_sub _ (sub_c (Or.inr rfl) (sub_c (Or.inl rfl) (sub_c (Or.inl rfl) (sub_c (Or.inr rfl) (sub_c (Or.inr rfl) (sub_c (Or.inr rfl) sub_n)))))) h
    · replace h := h.2 hc
      refine g_iload_n (i := 2) dX10_dark_10 rfl rfl ?_
      refine g_if_lt (tgt := 20) dX10_dark_11 rfl ⟨fun hc => ?_, fun hc => ?_⟩
      · replace h := h.1 hc
        exact g_sub _ (sub_c (Or.inr rfl) (sub_c (Or.inl rfl) (sub_c (Or.inl rfl) (sub_c (Or.inr rfl) (sub_c (Or.inr rfl) (sub_c (Or.inr rfl) sub_n)))))) h
      · replace h := h.2 hc
        refine g_iload_n (i := 2) dX10_dark_14 rfl rfl ?_
        refine g_bipush (v := (100 : Int32)) dX10_dark_15 (by decide) ?_
        refine g_icmp_le (tgt := 23) dX10_dark_17 rfl ⟨fun hc => ?_, fun hc => ?_⟩
        · replace h := h.1 hc
          refine g_ldc2 dX10_dark_23 wt_674 ?_
          refine g_lstore_n (i := 3) (L' := [.null, .int l1, .int l2, .long (1000000000 : Int64), .null, .null]) dX10_dark_26 rfl (Nat.le_of_ble_eq_true rfl) rfl rfl ?_
          refine g_iconst (v := (0 : Int32)) dX10_dark_27 (by decide) ?_
          refine g_istore (i := 5) (L' := [.null, .int l1, .int l2, .long (1000000000 : Int64), .null, .int (0 : Int32)]) dX10_dark_28 (Nat.le_of_ble_eq_true rfl) rfl rfl ?_
          exact h
        · replace h := h.2 hc
          exact g_sub _ (sub_c (Or.inr rfl) (sub_c (Or.inl rfl) (sub_c (Or.inl rfl) (sub_c (Or.inr rfl) (sub_c (Or.inr rfl) (sub_c (Or.inr rfl) sub_n)))))) h
theorem bX10_dark_20 {κ : gK} {M : MM} {Q : Int32 → MM → Prop} 
    (h : Q (-1000000002 : Int32) M) :
    G κ mX10_dark 20 [.null, .null, .null, .null, .null, .null] [] M Q := by
  refine g_ldc dX10_dark_20 wt_309 ?_
  exact g_iret dX10_dark_22 rfl h
theorem bX10_dark_30 {κ : gK} {M : MM} {Q : Int32 → MM → Prop} (l1 : Int32) (l2 : Int32) (l3 : Int64) (l5 : Int32)
    (h : ((l1 ≤ l5 → Q (l3).toInt32 M) ∧ (¬ l1 ≤ l5 → G κ mX10_dark 30 [.null, .int l1, .int l2, .long ((l3 * (l2).toInt64) / (100 : Int64)), .null, .int (l5 + 1)] [] M Q))) :
    G κ mX10_dark 30 [.null, .int l1, .int l2, .long l3, .null, .int l5] [] M Q := by
  refine g_iload (i := 5) dX10_dark_30 rfl ?_
  refine g_iload_n (i := 1) dX10_dark_32 rfl rfl ?_
  refine g_icmp_ge (tgt := 51) dX10_dark_33 rfl ⟨fun hc => ?_, fun hc => ?_⟩
  · replace h := h.1 hc
    refine g_lload_n (i := 3) dX10_dark_51 rfl rfl ?_
    refine g_l2i dX10_dark_52 ?_
    exact g_iret dX10_dark_53 rfl h
  · replace h := h.2 hc
    refine g_lload_n (i := 3) dX10_dark_36 rfl rfl ?_
    refine g_iload_n (i := 2) dX10_dark_37 rfl rfl ?_
    refine g_i2l dX10_dark_38 ?_
    refine g_lmul dX10_dark_39 ?_
    refine g_ldc2 dX10_dark_40 wt_675 ?_
    refine g_ldiv dX10_dark_43 (by decide) ?_
    refine g_lstore_n (i := 3) (L' := [.null, .int l1, .int l2, .long ((l3 * (l2).toInt64) / (100 : Int64)), .null, .int l5]) dX10_dark_44 rfl (Nat.le_of_ble_eq_true rfl) rfl rfl ?_
    refine g_iinc (v := (l5 + 1)) (L' := [.null, .int l1, .int l2, .long ((l3 * (l2).toInt64) / (100 : Int64)), .null, .int (l5 + 1)]) dX10_dark_45 rfl rfl (Nat.le_of_ble_eq_true rfl) rfl rfl ?_
    refine g_goto (tgt := 30) dX10_dark_48 rfl ?_
    exact h
theorem eX10_dark {κ : gK} {M : MM} {Q : Int32 → MM → Prop} (l1 : Int32) (l2 : Int32)
    (h : G κ mX10_dark 0 [.null, .int l1, .int l2, .null, .null, .null] [] M Q) : Cl κ mX10_dark [.ref 0, .int l1, .int l2] M Q := g_entry 3 pl_X10_dark (Nat.le_of_ble_eq_true rfl) (L := [.ref 0, .int l1, .int l2, .null, .null, .null]) rfl (g_sub _ (sub_c (Or.inl rfl) (sub_c (Or.inr rfl) (sub_c (Or.inr rfl) (sub_c (Or.inr rfl) (sub_c (Or.inr rfl) (sub_c (Or.inr rfl) sub_n)))))) h)
theorem dX10_shadow_0 : decode cX10_shadow 0 = .ok (.iload_n 1, 1) := by decide +kernel
theorem dX10_shadow_1 : decode cX10_shadow 1 = .ok (.iconst 1, 1) := by decide +kernel
theorem dX10_shadow_2 : decode cX10_shadow 2 = .ok (.if_icmp .lt 20, 3) := by decide +kernel
theorem dX10_shadow_5 : decode cX10_shadow 5 = .ok (.iload_n 1, 1) := by decide +kernel
theorem dX10_shadow_6 : decode cX10_shadow 6 = .ok (.bipush 9, 2) := by decide +kernel
theorem dX10_shadow_8 : decode cX10_shadow 8 = .ok (.if_icmp .gt 14, 3) := by decide +kernel
theorem dX10_shadow_11 : decode cX10_shadow 11 = .ok (.aload_n 0, 1) := by decide +kernel
theorem dX10_shadow_12 : decode cX10_shadow 12 = .ok (.getfield 12, 3) := by decide +kernel
theorem dX10_shadow_15 : decode cX10_shadow 15 = .ok (.iload_n 2, 1) := by decide +kernel
theorem dX10_shadow_16 : decode cX10_shadow 16 = .ok (.invokevirtual 184, 3) := by decide +kernel
theorem dX10_shadow_19 : decode cX10_shadow 19 = .ok (.ifCond .ne 6, 3) := by decide +kernel
theorem dX10_shadow_22 : decode cX10_shadow 22 = .ok (.ldc 92, 2) := by decide +kernel
theorem dX10_shadow_24 : decode cX10_shadow 24 = .ok (.ireturn, 1) := by decide +kernel
theorem dX10_shadow_25 : decode cX10_shadow 25 = .ok (.aload_n 0, 1) := by decide +kernel
theorem dX10_shadow_26 : decode cX10_shadow 26 = .ok (.getfield 67, 3) := by decide +kernel
theorem dX10_shadow_29 : decode cX10_shadow 29 = .ok (.getfield 154, 3) := by decide +kernel
theorem dX10_shadow_32 : decode cX10_shadow 32 = .ok (.bipush 6, 2) := by decide +kernel
theorem dX10_shadow_34 : decode cX10_shadow 34 = .ok (.if_icmp .lt 6, 3) := by decide +kernel
theorem dX10_shadow_37 : decode cX10_shadow 37 = .ok (.ldc 96, 2) := by decide +kernel
theorem dX10_shadow_39 : decode cX10_shadow 39 = .ok (.ireturn, 1) := by decide +kernel
theorem dX10_shadow_40 : decode cX10_shadow 40 = .ok (.aload_n 0, 1) := by decide +kernel
theorem dX10_shadow_41 : decode cX10_shadow 41 = .ok (.getfield 67, 3) := by decide +kernel
theorem dX10_shadow_44 : decode cX10_shadow 44 = .ok (.iload_n 1, 1) := by decide +kernel
theorem dX10_shadow_45 : decode cX10_shadow 45 = .ok (.iload_n 2, 1) := by decide +kernel
theorem dX10_shadow_46 : decode cX10_shadow 46 = .ok (.invokevirtual 245, 3) := by decide +kernel
theorem dX10_shadow_49 : decode cX10_shadow 49 = .ok (.ireturn, 1) := by decide +kernel
theorem bX10_shadow_0 {κ : gK} {M : MM} {Q : Int32 → MM → Prop} (l1 : Int32) (l2 : Int32)
    (h : ((l1 < (1 : Int32) → G κ mX10_shadow 22 [.null, .null, .null] [] M Q) ∧ (¬ l1 < (1 : Int32) → (((9 : Int32) < l1 → G κ mX10_shadow 22 [.null, .null, .null] [] M Q) ∧ (¬ (9 : Int32) < l1 → Cl κ mX9_hasLayer [.ref 1, .int l2] M (fun r1 M1 => ((r1 = 0 → G κ mX10_shadow 22 [.null, .null, .null] [] M1 Q) ∧ (¬ r1 = 0 → (((M1 105 3) < (6 : Int32) → Cl κ mX6_add [.ref 105, .int l1, .int l2] M1 (fun r2 M2 => Q r2 M2)) ∧ (¬ (M1 105 3) < (6 : Int32) → Q (-1000000004 : Int32) M1)))))))))) :
    G κ mX10_shadow 0 [.ref 0, .int l1, .int l2] [] M Q := by
  refine g_iload_n (i := 1) dX10_shadow_0 rfl rfl ?_
  refine g_iconst (v := (1 : Int32)) dX10_shadow_1 (by decide) ?_
  refine g_icmp_lt (tgt := 22) dX10_shadow_2 rfl ⟨fun hc => ?_, fun hc => ?_⟩
  · replace h := h.1 hc
    exact g_sub _ (sub_c (Or.inl rfl) (sub_c (Or.inl rfl) (sub_c (Or.inl rfl) sub_n))) h
  · replace h := h.2 hc
    refine g_iload_n (i := 1) dX10_shadow_5 rfl rfl ?_
    refine g_bipush (v := (9 : Int32)) dX10_shadow_6 (by decide) ?_
    refine g_icmp_gt (tgt := 22) dX10_shadow_8 rfl ⟨fun hc => ?_, fun hc => ?_⟩
    · replace h := h.1 hc
      exact g_sub _ (sub_c (Or.inl rfl) (sub_c (Or.inl rfl) (sub_c (Or.inl rfl) sub_n))) h
    · replace h := h.2 hc
      refine g_aload_n (i := 0) dX10_shadow_11 rfl rfl ?_
      refine gf_RX10_12 rfl dX10_shadow_12 sh_0 ?_
      refine g_iload_n (i := 2) dX10_shadow_15 rfl rfl ?_
      refine gc_RX10_184 rfl (Nat.le_of_ble_eq_true rfl) dX10_shadow_16 sh_1 (Nat.le_of_ble_eq_true rfl) ?_
      refine Cl.mono h (fun r1 M1 h => ?_)
      refine g_if_ne (tgt := 25) dX10_shadow_19 rfl ⟨fun hc => ?_, fun hc => ?_⟩
      · replace h := h.1 hc
        exact g_sub _ (sub_c (Or.inl rfl) (sub_c (Or.inl rfl) (sub_c (Or.inl rfl) sub_n))) h
      · replace h := h.2 hc
        refine g_aload_n (i := 0) dX10_shadow_25 rfl rfl ?_
        refine gf_RX10_67 rfl dX10_shadow_26 sh_0 ?_
        refine gf_RX10_154 rfl dX10_shadow_29 sh_105 ?_
        refine g_bipush (v := (6 : Int32)) dX10_shadow_32 (by decide) ?_
        refine g_icmp_lt (tgt := 40) dX10_shadow_34 rfl ⟨fun hc => ?_, fun hc => ?_⟩
        · replace h := h.1 hc
          refine g_aload_n (i := 0) dX10_shadow_40 rfl rfl ?_
          refine gf_RX10_67 rfl dX10_shadow_41 sh_0 ?_
          refine g_iload_n (i := 1) dX10_shadow_44 rfl rfl ?_
          refine g_iload_n (i := 2) dX10_shadow_45 rfl rfl ?_
          refine gc_RX10_245 rfl (Nat.le_of_ble_eq_true rfl) dX10_shadow_46 sh_105 (Nat.le_of_ble_eq_true rfl) ?_
          refine Cl.mono h (fun r2 M2 h => ?_)
          exact g_iret dX10_shadow_49 rfl h
        · replace h := h.2 hc
          refine g_ldc dX10_shadow_37 wt_310 ?_
          exact g_iret dX10_shadow_39 rfl h
theorem bX10_shadow_22 {κ : gK} {M : MM} {Q : Int32 → MM → Prop} 
    (h : Q (-1000000002 : Int32) M) :
    G κ mX10_shadow 22 [.null, .null, .null] [] M Q := by
  refine g_ldc dX10_shadow_22 wt_309 ?_
  exact g_iret dX10_shadow_24 rfl h
theorem eX10_shadow {κ : gK} {M : MM} {Q : Int32 → MM → Prop} (l1 : Int32) (l2 : Int32)
    (h : G κ mX10_shadow 0 [.ref 0, .int l1, .int l2] [] M Q) : Cl κ mX10_shadow [.ref 0, .int l1, .int l2] M Q := g_entry 0 pl_X10_shadow (Nat.le_of_ble_eq_true rfl) (L := [.ref 0, .int l1, .int l2]) rfl (g_sub _ (sub_c (Or.inr rfl) (sub_c (Or.inr rfl) (sub_c (Or.inr rfl) sub_n))) h)
theorem dX10_is_0 : decode cX10_is 0 = .ok (.iload_n 1, 1) := by decide +kernel
theorem dX10_is_1 : decode cX10_is 1 = .ok (.ifCond .lt 8, 3) := by decide +kernel
theorem dX10_is_4 : decode cX10_is 4 = .ok (.iload_n 1, 1) := by decide +kernel
theorem dX10_is_5 : decode cX10_is 5 = .ok (.iconst 2, 1) := by decide +kernel
theorem dX10_is_6 : decode cX10_is 6 = .ok (.if_icmp .le 6, 3) := by decide +kernel
theorem dX10_is_9 : decode cX10_is 9 = .ok (.ldc 92, 2) := by decide +kernel
theorem dX10_is_11 : decode cX10_is 11 = .ok (.ireturn, 1) := by decide +kernel
theorem dX10_is_12 : decode cX10_is 12 = .ok (.aload_n 0, 1) := by decide +kernel
theorem dX10_is_13 : decode cX10_is 13 = .ok (.getfield 12, 3) := by decide +kernel
theorem dX10_is_16 : decode cX10_is 16 = .ok (.invokevirtual 197, 3) := by decide +kernel
theorem dX10_is_19 : decode cX10_is 19 = .ok (.ifCond .ne 6, 3) := by decide +kernel
theorem dX10_is_22 : decode cX10_is 22 = .ok (.ldc 201, 2) := by decide +kernel
theorem dX10_is_24 : decode cX10_is 24 = .ok (.ireturn, 1) := by decide +kernel
theorem dX10_is_25 : decode cX10_is 25 = .ok (.iload_n 1, 1) := by decide +kernel
theorem dX10_is_26 : decode cX10_is 26 = .ok (.lookupswitch 50 #[(0, 26), (1, 38)], 26) := by decide +kernel
theorem dX10_is_52 : decode cX10_is 52 = .ok (.aload_n 0, 1) := by decide +kernel
theorem dX10_is_53 : decode cX10_is 53 = .ok (.getfield 67, 3) := by decide +kernel
theorem dX10_is_56 : decode cX10_is 56 = .ok (.aload_n 0, 1) := by decide +kernel
theorem dX10_is_57 : decode cX10_is 57 = .ok (.getfield 12, 3) := by decide +kernel
theorem dX10_is_60 : decode cX10_is 60 = .ok (.invokevirtual 247, 3) := by decide +kernel
theorem dX10_is_63 : decode cX10_is 63 = .ok (.ireturn, 1) := by decide +kernel
theorem dX10_is_64 : decode cX10_is 64 = .ok (.aload_n 0, 1) := by decide +kernel
theorem dX10_is_65 : decode cX10_is 65 = .ok (.getfield 67, 3) := by decide +kernel
theorem dX10_is_68 : decode cX10_is 68 = .ok (.aload_n 0, 1) := by decide +kernel
theorem dX10_is_69 : decode cX10_is 69 = .ok (.getfield 12, 3) := by decide +kernel
theorem dX10_is_72 : decode cX10_is 72 = .ok (.invokevirtual 250, 3) := by decide +kernel
theorem dX10_is_75 : decode cX10_is 75 = .ok (.ireturn, 1) := by decide +kernel
theorem dX10_is_76 : decode cX10_is 76 = .ok (.aload_n 0, 1) := by decide +kernel
theorem dX10_is_77 : decode cX10_is 77 = .ok (.getfield 67, 3) := by decide +kernel
theorem dX10_is_80 : decode cX10_is 80 = .ok (.aload_n 0, 1) := by decide +kernel
theorem dX10_is_81 : decode cX10_is 81 = .ok (.getfield 12, 3) := by decide +kernel
theorem dX10_is_84 : decode cX10_is 84 = .ok (.invokevirtual 253, 3) := by decide +kernel
theorem dX10_is_87 : decode cX10_is 87 = .ok (.ireturn, 1) := by decide +kernel
theorem bX10_is_0 {κ : gK} {M : MM} {Q : Int32 → MM → Prop} (l1 : Int32)
    (h : ((l1 < 0 → G κ mX10_is 9 [.null, .null] [] M Q) ∧ (¬ l1 < 0 → ((l1 ≤ (2 : Int32) → Cl κ mX9_isThere [.ref 1] M (fun r1 M1 => ((r1 = 0 → Q (-1000000003 : Int32) M1) ∧ (¬ r1 = 0 → ((l1 = (0 : Int32) → Cl κ mX6_howManyFit [.ref 105, .ref 1] M1 (fun r2 M2 => Q r2 M2)) ∧ (l1 = (1 : Int32) → Cl κ mX6_firstFit [.ref 105, .ref 1] M1 (fun r3 M3 => Q r3 M3)) ∧ ((¬ l1 = (0 : Int32) ∧ ¬ l1 = (1 : Int32)) → Cl κ mX6_lightToWatch [.ref 105, .ref 1] M1 (fun r4 M4 => Q r4 M4))))))) ∧ (¬ l1 ≤ (2 : Int32) → G κ mX10_is 9 [.null, .null] [] M Q))))) :
    G κ mX10_is 0 [.ref 0, .int l1] [] M Q := by
  refine g_iload_n (i := 1) dX10_is_0 rfl rfl ?_
  refine g_if_lt (tgt := 9) dX10_is_1 rfl ⟨fun hc => ?_, fun hc => ?_⟩
  · replace h := h.1 hc
    exact g_sub _ (sub_c (Or.inl rfl) (sub_c (Or.inl rfl) sub_n)) h
  · replace h := h.2 hc
    refine g_iload_n (i := 1) dX10_is_4 rfl rfl ?_
    refine g_iconst (v := (2 : Int32)) dX10_is_5 (by decide) ?_
    refine g_icmp_le (tgt := 12) dX10_is_6 rfl ⟨fun hc => ?_, fun hc => ?_⟩
    · replace h := h.1 hc
      refine g_aload_n (i := 0) dX10_is_12 rfl rfl ?_
      refine gf_RX10_12 rfl dX10_is_13 sh_0 ?_
      refine gc_RX10_197 rfl (Nat.le_of_ble_eq_true rfl) dX10_is_16 sh_1 (Nat.le_of_ble_eq_true rfl) ?_
      refine Cl.mono h (fun r1 M1 h => ?_)
      refine g_if_ne (tgt := 25) dX10_is_19 rfl ⟨fun hc => ?_, fun hc => ?_⟩
      · replace h := h.1 hc
        refine g_ldc dX10_is_22 wt_487 ?_
        exact g_iret dX10_is_24 rfl h
      · replace h := h.2 hc
        refine g_iload_n (i := 1) dX10_is_25 rfl rfl ?_
        by_cases hx0 : l1 = (0 : Int32)
        · replace h := h.1 hx0
          refine g_look (off := 26) (tgt := 52) dX10_is_26 rfl (by rw [hx0] <;> rfl) rfl ?_
          refine g_aload_n (i := 0) dX10_is_52 rfl rfl ?_
          refine gf_RX10_67 rfl dX10_is_53 sh_0 ?_
          refine g_aload_n (i := 0) dX10_is_56 rfl rfl ?_
          refine gf_RX10_12 rfl dX10_is_57 sh_0 ?_
          refine gc_RX10_247 rfl (Nat.le_of_ble_eq_true rfl) dX10_is_60 sh_105 (Nat.le_of_ble_eq_true rfl) ?_
          refine Cl.mono h (fun r2 M2 h => ?_)
          exact g_iret dX10_is_63 rfl h
        by_cases hx1 : l1 = (1 : Int32)
        · replace h := h.2.1 hx1
          refine g_look (off := 38) (tgt := 64) dX10_is_26 rfl (by rw [hx1] <;> rfl) rfl ?_
          refine g_aload_n (i := 0) dX10_is_64 rfl rfl ?_
          refine gf_RX10_67 rfl dX10_is_65 sh_0 ?_
          refine g_aload_n (i := 0) dX10_is_68 rfl rfl ?_
          refine gf_RX10_12 rfl dX10_is_69 sh_0 ?_
          refine gc_RX10_250 rfl (Nat.le_of_ble_eq_true rfl) dX10_is_72 sh_105 (Nat.le_of_ble_eq_true rfl) ?_
          refine Cl.mono h (fun r3 M3 h => ?_)
          exact g_iret dX10_is_75 rfl h
        replace h := h.2.2 ⟨hx0, hx1⟩
        refine g_look (off := 50) (tgt := 76) dX10_is_26 rfl (show Op.lookupswitch.offset [(0, 26), (1, 38)] 50 _ = _ from ((lv_osw hx0 rfl).trans ((lv_osw hx1 rfl).trans rfl))) rfl ?_
        refine g_aload_n (i := 0) dX10_is_76 rfl rfl ?_
        refine gf_RX10_67 rfl dX10_is_77 sh_0 ?_
        refine g_aload_n (i := 0) dX10_is_80 rfl rfl ?_
        refine gf_RX10_12 rfl dX10_is_81 sh_0 ?_
        refine gc_RX10_253 rfl (Nat.le_of_ble_eq_true rfl) dX10_is_84 sh_105 (Nat.le_of_ble_eq_true rfl) ?_
        refine Cl.mono h (fun r4 M4 h => ?_)
        exact g_iret dX10_is_87 rfl h
    · replace h := h.2 hc
      exact g_sub _ (sub_c (Or.inl rfl) (sub_c (Or.inl rfl) sub_n)) h
theorem bX10_is_9 {κ : gK} {M : MM} {Q : Int32 → MM → Prop} 
    (h : Q (-1000000002 : Int32) M) :
    G κ mX10_is 9 [.null, .null] [] M Q := by
  refine g_ldc dX10_is_9 wt_309 ?_
  exact g_iret dX10_is_11 rfl h
theorem eX10_is {κ : gK} {M : MM} {Q : Int32 → MM → Prop} (l1 : Int32)
    (h : G κ mX10_is 0 [.ref 0, .int l1] [] M Q) : Cl κ mX10_is [.ref 0, .int l1] M Q := g_entry 0 pl_X10_is (Nat.le_of_ble_eq_true rfl) (L := [.ref 0, .int l1]) rfl (g_sub _ (sub_c (Or.inr rfl) (sub_c (Or.inr rfl) sub_n)) h)
