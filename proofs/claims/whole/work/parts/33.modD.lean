theorem dX11_asides_0 : decode cX11_asides 0 = .ok (.iconst 0, 1) := by decide +kernel
theorem dX11_asides_1 : decode cX11_asides 1 = .ok (.istore_n 1, 1) := by decide +kernel
theorem dX11_asides_2 : decode cX11_asides 2 = .ok (.iload_n 1, 1) := by decide +kernel
theorem dX11_asides_3 : decode cX11_asides 3 = .ok (.bipush 26, 2) := by decide +kernel
theorem dX11_asides_5 : decode cX11_asides 5 = .ok (.if_icmp .ge 21, 3) := by decide +kernel
theorem dX11_asides_8 : decode cX11_asides 8 = .ok (.aload_n 0, 1) := by decide +kernel
theorem dX11_asides_9 : decode cX11_asides 9 = .ok (.getfield 35, 3) := by decide +kernel
theorem dX11_asides_12 : decode cX11_asides 12 = .ok (.iload_n 1, 1) := by decide +kernel
theorem dX11_asides_13 : decode cX11_asides 13 = .ok (.aload_n 0, 1) := by decide +kernel
theorem dX11_asides_14 : decode cX11_asides 14 = .ok (.getfield 16, 3) := by decide +kernel
theorem dX11_asides_17 : decode cX11_asides 17 = .ok (.iload_n 1, 1) := by decide +kernel
theorem dX11_asides_18 : decode cX11_asides 18 = .ok (.iaload, 1) := by decide +kernel
theorem dX11_asides_19 : decode cX11_asides 19 = .ok (.iastore, 1) := by decide +kernel
theorem dX11_asides_20 : decode cX11_asides 20 = .ok (.iinc 1 1, 3) := by decide +kernel
theorem dX11_asides_23 : decode cX11_asides 23 = .ok (.goto (-21), 3) := by decide +kernel
theorem dX11_asides_26 : decode cX11_asides 26 = .ok (.return_, 1) := by decide +kernel
theorem bX11_asides_0 {κ : gK} {M : MM} {Q : Int32 → MM → Prop} 
    (h : G κ mX11_asides 2 [.ref 119, .int (0 : Int32)] [] M Q) :
    G κ mX11_asides 0 [.ref 119, .null] [] M Q := by
  refine g_iconst (v := (0 : Int32)) dX11_asides_0 (by decide) ?_
  refine g_istore_n (i := 1) (L' := [.ref 119, .int (0 : Int32)]) dX11_asides_1 rfl (Nat.le_of_ble_eq_true rfl) rfl rfl ?_
  exact h
theorem bX11_asides_2 {κ : gK} {M : MM} {Q : Int32 → MM → Prop} (l1 : Int32)
    (h : (((26 : Int32) ≤ l1 → Q 0 M) ∧ (¬ (26 : Int32) ≤ l1 → (vp_in l1 26) ∧ (∀ M1 : MM, M1 = (pt M 127 (l1).toNatClampNeg (M 122 (l1).toNatClampNeg)) → (G κ mX11_asides 2 [.ref 119, .int (l1 + 1)] [] M1 Q))))) :
    G κ mX11_asides 2 [.ref 119, .int l1] [] M Q := by
  refine g_iload_n (i := 1) dX11_asides_2 rfl rfl ?_
  refine g_bipush (v := (26 : Int32)) dX11_asides_3 (by decide) ?_
  refine g_icmp_ge (tgt := 26) dX11_asides_5 rfl ⟨fun hc => ?_, fun hc => ?_⟩
  · replace h := h.1 hc
    exact g_vret dX11_asides_26 rfl h
  · replace h := h.2 hc
    refine g_aload_n (i := 0) dX11_asides_8 rfl rfl ?_
    refine gf_RX11_35 rfl dX11_asides_9 sh_119 ?_
    refine g_iload_n (i := 1) dX11_asides_12 rfl rfl ?_
    refine g_aload_n (i := 0) dX11_asides_13 rfl rfl ?_
    refine gf_RX11_16 rfl dX11_asides_14 sh_119 ?_
    refine g_iload_n (i := 1) dX11_asides_17 rfl rfl ?_
    have hv1 := h.1; replace h := h.2
    refine g_iald dX11_asides_18 sh_122 hv1 ?_
    refine g_iastP dX11_asides_19 sh_127 hv1 ?_
    refine g_nmM (fun M1 hM1 => ?_); replace h := h M1 hM1
    refine g_iinc (v := (l1 + 1)) (L' := [.ref 119, .int (l1 + 1)]) dX11_asides_20 rfl rfl (Nat.le_of_ble_eq_true rfl) rfl rfl ?_
    refine g_goto (tgt := 2) dX11_asides_23 rfl ?_
    exact h
theorem eX11_asides {κ : gK} {M : MM} {Q : Int32 → MM → Prop} 
    (h : G κ mX11_asides 0 [.ref 119, .null] [] M Q) : Cl κ mX11_asides [.ref 119] M Q := g_entry 1 pl_X11_asides (Nat.le_of_ble_eq_true rfl) (L := [.ref 119, .null]) rfl (g_sub _ (sub_c (Or.inr rfl) (sub_c (Or.inr rfl) sub_n)) h)
theorem dX11_backs_0 : decode cX11_backs 0 = .ok (.iconst 0, 1) := by decide +kernel
theorem dX11_backs_1 : decode cX11_backs 1 = .ok (.istore_n 1, 1) := by decide +kernel
theorem dX11_backs_2 : decode cX11_backs 2 = .ok (.iload_n 1, 1) := by decide +kernel
theorem dX11_backs_3 : decode cX11_backs 3 = .ok (.bipush 26, 2) := by decide +kernel
theorem dX11_backs_5 : decode cX11_backs 5 = .ok (.if_icmp .ge 21, 3) := by decide +kernel
theorem dX11_backs_8 : decode cX11_backs 8 = .ok (.aload_n 0, 1) := by decide +kernel
theorem dX11_backs_9 : decode cX11_backs 9 = .ok (.getfield 16, 3) := by decide +kernel
theorem dX11_backs_12 : decode cX11_backs 12 = .ok (.iload_n 1, 1) := by decide +kernel
theorem dX11_backs_13 : decode cX11_backs 13 = .ok (.aload_n 0, 1) := by decide +kernel
theorem dX11_backs_14 : decode cX11_backs 14 = .ok (.getfield 35, 3) := by decide +kernel
theorem dX11_backs_17 : decode cX11_backs 17 = .ok (.iload_n 1, 1) := by decide +kernel
theorem dX11_backs_18 : decode cX11_backs 18 = .ok (.iaload, 1) := by decide +kernel
theorem dX11_backs_19 : decode cX11_backs 19 = .ok (.iastore, 1) := by decide +kernel
theorem dX11_backs_20 : decode cX11_backs 20 = .ok (.iinc 1 1, 3) := by decide +kernel
theorem dX11_backs_23 : decode cX11_backs 23 = .ok (.goto (-21), 3) := by decide +kernel
theorem dX11_backs_26 : decode cX11_backs 26 = .ok (.return_, 1) := by decide +kernel
theorem bX11_backs_0 {κ : gK} {M : MM} {Q : Int32 → MM → Prop} 
    (h : G κ mX11_backs 2 [.ref 119, .int (0 : Int32)] [] M Q) :
    G κ mX11_backs 0 [.ref 119, .null] [] M Q := by
  refine g_iconst (v := (0 : Int32)) dX11_backs_0 (by decide) ?_
  refine g_istore_n (i := 1) (L' := [.ref 119, .int (0 : Int32)]) dX11_backs_1 rfl (Nat.le_of_ble_eq_true rfl) rfl rfl ?_
  exact h
theorem bX11_backs_2 {κ : gK} {M : MM} {Q : Int32 → MM → Prop} (l1 : Int32)
    (h : (((26 : Int32) ≤ l1 → Q 0 M) ∧ (¬ (26 : Int32) ≤ l1 → (vp_in l1 26) ∧ (∀ M1 : MM, M1 = (pt M 122 (l1).toNatClampNeg (M 127 (l1).toNatClampNeg)) → (G κ mX11_backs 2 [.ref 119, .int (l1 + 1)] [] M1 Q))))) :
    G κ mX11_backs 2 [.ref 119, .int l1] [] M Q := by
  refine g_iload_n (i := 1) dX11_backs_2 rfl rfl ?_
  refine g_bipush (v := (26 : Int32)) dX11_backs_3 (by decide) ?_
  refine g_icmp_ge (tgt := 26) dX11_backs_5 rfl ⟨fun hc => ?_, fun hc => ?_⟩
  · replace h := h.1 hc
    exact g_vret dX11_backs_26 rfl h
  · replace h := h.2 hc
    refine g_aload_n (i := 0) dX11_backs_8 rfl rfl ?_
    refine gf_RX11_16 rfl dX11_backs_9 sh_119 ?_
    refine g_iload_n (i := 1) dX11_backs_12 rfl rfl ?_
    refine g_aload_n (i := 0) dX11_backs_13 rfl rfl ?_
    refine gf_RX11_35 rfl dX11_backs_14 sh_119 ?_
    refine g_iload_n (i := 1) dX11_backs_17 rfl rfl ?_
    have hv1 := h.1; replace h := h.2
    refine g_iald dX11_backs_18 sh_127 hv1 ?_
    refine g_iastP dX11_backs_19 sh_122 hv1 ?_
    refine g_nmM (fun M1 hM1 => ?_); replace h := h M1 hM1
    refine g_iinc (v := (l1 + 1)) (L' := [.ref 119, .int (l1 + 1)]) dX11_backs_20 rfl rfl (Nat.le_of_ble_eq_true rfl) rfl rfl ?_
    refine g_goto (tgt := 2) dX11_backs_23 rfl ?_
    exact h
theorem eX11_backs {κ : gK} {M : MM} {Q : Int32 → MM → Prop} 
    (h : G κ mX11_backs 0 [.ref 119, .null] [] M Q) : Cl κ mX11_backs [.ref 119] M Q := g_entry 1 pl_X11_backs (Nat.le_of_ble_eq_true rfl) (L := [.ref 119, .null]) rfl (g_sub _ (sub_c (Or.inr rfl) (sub_c (Or.inr rfl) sub_n)) h)
theorem dX11_layers_0 : decode cX11_layers 0 = .ok (.aload_n 0, 1) := by decide +kernel
theorem dX11_layers_1 : decode cX11_layers 1 = .ok (.iload_n 1, 1) := by decide +kernel
theorem dX11_layers_2 : decode cX11_layers 2 = .ok (.invokevirtual 195, 3) := by decide +kernel
theorem dX11_layers_5 : decode cX11_layers 5 = .ok (.ifCond .ne 6, 3) := by decide +kernel
theorem dX11_layers_8 : decode cX11_layers 8 = .ok (.ldc 199, 2) := by decide +kernel
theorem dX11_layers_10 : decode cX11_layers 10 = .ok (.ireturn, 1) := by decide +kernel
theorem dX11_layers_11 : decode cX11_layers 11 = .ok (.iload_n 2, 1) := by decide +kernel
theorem dX11_layers_12 : decode cX11_layers 12 = .ok (.i2l, 1) := by decide +kernel
theorem dX11_layers_13 : decode cX11_layers 13 = .ok (.lconst 0, 1) := by decide +kernel
theorem dX11_layers_14 : decode cX11_layers 14 = .ok (.ldc2_w 233, 3) := by decide +kernel
theorem dX11_layers_17 : decode cX11_layers 17 = .ok (.invokestatic 63, 3) := by decide +kernel
theorem dX11_layers_20 : decode cX11_layers 20 = .ok (.ifCond .ne 6, 3) := by decide +kernel
theorem dX11_layers_23 : decode cX11_layers 23 = .ok (.ldc 112, 2) := by decide +kernel
theorem dX11_layers_25 : decode cX11_layers 25 = .ok (.ireturn, 1) := by decide +kernel
theorem dX11_layers_26 : decode cX11_layers 26 = .ok (.aload_n 0, 1) := by decide +kernel
theorem dX11_layers_27 : decode cX11_layers 27 = .ok (.invokevirtual 235, 3) := by decide +kernel
theorem dX11_layers_30 : decode cX11_layers 30 = .ok (.aload_n 0, 1) := by decide +kernel
theorem dX11_layers_31 : decode cX11_layers 31 = .ok (.iload_n 2, 1) := by decide +kernel
theorem dX11_layers_32 : decode cX11_layers 32 = .ok (.invokevirtual 212, 3) := by decide +kernel
theorem dX11_layers_35 : decode cX11_layers 35 = .ok (.aload_n 0, 1) := by decide +kernel
theorem dX11_layers_36 : decode cX11_layers 36 = .ok (.iload_n 1, 1) := by decide +kernel
theorem dX11_layers_37 : decode cX11_layers 37 = .ok (.invokevirtual 70, 3) := by decide +kernel
theorem dX11_layers_40 : decode cX11_layers 40 = .ok (.istore_n 3, 1) := by decide +kernel
theorem dX11_layers_41 : decode cX11_layers 41 = .ok (.aload_n 0, 1) := by decide +kernel
theorem dX11_layers_42 : decode cX11_layers 42 = .ok (.invokevirtual 238, 3) := by decide +kernel
theorem dX11_layers_45 : decode cX11_layers 45 = .ok (.iload_n 3, 1) := by decide +kernel
theorem dX11_layers_46 : decode cX11_layers 46 = .ok (.ireturn, 1) := by decide +kernel
theorem bX11_layers_0 {κ : gK} {M : MM} {Q : Int32 → MM → Prop} (l1 : Int32) (l2 : Int32)
    (h : Cl κ mX11_isPerson [.ref 119, .int l1] M (fun r1 M1 => ((r1 = 0 → Q (-1000000001 : Int32) M1) ∧ (¬ r1 = 0 → Cl κ mX11_in [.long (l2).toInt64, .long (0 : Int64), .long (200 : Int64)] M1 (fun r2 M2 => ((r2 = 0 → Q (-1000000002 : Int32) M2) ∧ (¬ r2 = 0 → Cl κ mX11_asides [.ref 119] M2 (fun _ M3 => Cl κ mX11_goesOn [.ref 119, .int l2] M3 (fun _ M4 => Cl κ mX11_layersOf [.ref 119, .int l1] M4 (fun r5 M5 => Cl κ mX11_backs [.ref 119] M5 (fun _ M6 => Q r5 M6))))))))))) :
    G κ mX11_layers 0 [.ref 119, .int l1, .int l2, .null] [] M Q := by
  refine g_aload_n (i := 0) dX11_layers_0 rfl rfl ?_
  refine g_iload_n (i := 1) dX11_layers_1 rfl rfl ?_
  refine gc_RX11_195 rfl (Nat.le_of_ble_eq_true rfl) dX11_layers_2 sh_119 (Nat.le_of_ble_eq_true rfl) ?_
  refine Cl.mono h (fun r1 M1 h => ?_)
  refine g_if_ne (tgt := 11) dX11_layers_5 rfl ⟨fun hc => ?_, fun hc => ?_⟩
  · replace h := h.1 hc
    refine g_ldc dX11_layers_8 wt_984 ?_
    exact g_iret dX11_layers_10 rfl h
  · replace h := h.2 hc
    refine g_iload_n (i := 2) dX11_layers_11 rfl rfl ?_
    refine g_i2l dX11_layers_12 ?_
    refine g_lconst (v := (0 : Int64)) dX11_layers_13 (by decide) ?_
    refine g_ldc2 dX11_layers_14 wt_1073 ?_
    refine gc_RX11_63 rfl (Nat.le_of_ble_eq_true rfl) dX11_layers_17 (Nat.le_of_ble_eq_true rfl) ?_
    refine Cl.mono h (fun r2 M2 h => ?_)
    refine g_if_ne (tgt := 26) dX11_layers_20 rfl ⟨fun hc => ?_, fun hc => ?_⟩
    · replace h := h.1 hc
      refine g_ldc dX11_layers_23 wt_873 ?_
      exact g_iret dX11_layers_25 rfl h
    · replace h := h.2 hc
      refine g_aload_n (i := 0) dX11_layers_26 rfl rfl ?_
      refine gc_RX11_235 rfl (Nat.le_of_ble_eq_true rfl) dX11_layers_27 sh_119 (Nat.le_of_ble_eq_true rfl) ?_
      refine Cl.mono h (fun r3 M3 h => ?_)
      refine g_aload_n (i := 0) dX11_layers_30 rfl rfl ?_
      refine g_iload_n (i := 2) dX11_layers_31 rfl rfl ?_
      refine gc_RX11_212 rfl (Nat.le_of_ble_eq_true rfl) dX11_layers_32 sh_119 (Nat.le_of_ble_eq_true rfl) ?_
      refine Cl.mono h (fun r4 M4 h => ?_)
      refine g_aload_n (i := 0) dX11_layers_35 rfl rfl ?_
      refine g_iload_n (i := 1) dX11_layers_36 rfl rfl ?_
      refine gc_RX11_70 rfl (Nat.le_of_ble_eq_true rfl) dX11_layers_37 sh_119 (Nat.le_of_ble_eq_true rfl) ?_
      refine Cl.mono h (fun r5 M5 h => ?_)
      refine g_istore_n (i := 3) (L' := [.ref 119, .int l1, .int l2, .int r5]) dX11_layers_40 rfl (Nat.le_of_ble_eq_true rfl) rfl rfl ?_
      refine g_aload_n (i := 0) dX11_layers_41 rfl rfl ?_
      refine gc_RX11_238 rfl (Nat.le_of_ble_eq_true rfl) dX11_layers_42 sh_119 (Nat.le_of_ble_eq_true rfl) ?_
      refine Cl.mono h (fun r6 M6 h => ?_)
      refine g_iload_n (i := 3) dX11_layers_45 rfl rfl ?_
      exact g_iret dX11_layers_46 rfl h
theorem eX11_layers {κ : gK} {M : MM} {Q : Int32 → MM → Prop} (l1 : Int32) (l2 : Int32)
    (h : G κ mX11_layers 0 [.ref 119, .int l1, .int l2, .null] [] M Q) : Cl κ mX11_layers [.ref 119, .int l1, .int l2] M Q := g_entry 1 pl_X11_layers (Nat.le_of_ble_eq_true rfl) (L := [.ref 119, .int l1, .int l2, .null]) rfl (g_sub _ (sub_c (Or.inr rfl) (sub_c (Or.inr rfl) (sub_c (Or.inr rfl) (sub_c (Or.inr rfl) sub_n)))) h)
theorem dX11_first_0 : decode cX11_first 0 = .ok (.aload_n 0, 1) := by decide +kernel
theorem dX11_first_1 : decode cX11_first 1 = .ok (.iload_n 1, 1) := by decide +kernel
theorem dX11_first_2 : decode cX11_first 2 = .ok (.invokevirtual 195, 3) := by decide +kernel
theorem dX11_first_5 : decode cX11_first 5 = .ok (.ifCond .eq 11, 3) := by decide +kernel
theorem dX11_first_8 : decode cX11_first 8 = .ok (.aload_n 0, 1) := by decide +kernel
theorem dX11_first_9 : decode cX11_first 9 = .ok (.iload_n 2, 1) := by decide +kernel
theorem dX11_first_10 : decode cX11_first 10 = .ok (.invokevirtual 203, 3) := by decide +kernel
theorem dX11_first_13 : decode cX11_first 13 = .ok (.ifCond .ne 6, 3) := by decide +kernel
theorem dX11_first_16 : decode cX11_first 16 = .ok (.ldc 199, 2) := by decide +kernel
theorem dX11_first_18 : decode cX11_first 18 = .ok (.ireturn, 1) := by decide +kernel
theorem dX11_first_19 : decode cX11_first 19 = .ok (.aload_n 0, 1) := by decide +kernel
theorem dX11_first_20 : decode cX11_first 20 = .ok (.invokevirtual 235, 3) := by decide +kernel
theorem dX11_first_23 : decode cX11_first 23 = .ok (.iconst 0, 1) := by decide +kernel
theorem dX11_first_24 : decode cX11_first 24 = .ok (.istore_n 3, 1) := by decide +kernel
theorem dX11_first_25 : decode cX11_first 25 = .ok (.iload_n 3, 1) := by decide +kernel
theorem dX11_first_26 : decode cX11_first 26 = .ok (.sipush 201, 3) := by decide +kernel
theorem dX11_first_29 : decode cX11_first 29 = .ok (.if_icmp .ge 23, 3) := by decide +kernel
theorem dX11_first_32 : decode cX11_first 32 = .ok (.aload_n 0, 1) := by decide +kernel
theorem dX11_first_33 : decode cX11_first 33 = .ok (.iload_n 1, 1) := by decide +kernel
theorem dX11_first_34 : decode cX11_first 34 = .ok (.iload_n 2, 1) := by decide +kernel
theorem dX11_first_35 : decode cX11_first 35 = .ok (.invokevirtual 96, 3) := by decide +kernel
theorem dX11_first_38 : decode cX11_first 38 = .ok (.ifCond .ne 14, 3) := by decide +kernel
theorem dX11_first_41 : decode cX11_first 41 = .ok (.aload_n 0, 1) := by decide +kernel
theorem dX11_first_42 : decode cX11_first 42 = .ok (.iconst 1, 1) := by decide +kernel
theorem dX11_first_43 : decode cX11_first 43 = .ok (.invokevirtual 212, 3) := by decide +kernel
theorem dX11_first_46 : decode cX11_first 46 = .ok (.iinc 3 1, 3) := by decide +kernel
theorem dX11_first_49 : decode cX11_first 49 = .ok (.goto (-24), 3) := by decide +kernel
theorem dX11_first_52 : decode cX11_first 52 = .ok (.aload_n 0, 1) := by decide +kernel
theorem dX11_first_53 : decode cX11_first 53 = .ok (.invokevirtual 238, 3) := by decide +kernel
theorem dX11_first_56 : decode cX11_first 56 = .ok (.iload_n 3, 1) := by decide +kernel
theorem dX11_first_57 : decode cX11_first 57 = .ok (.sipush 201, 3) := by decide +kernel
theorem dX11_first_60 : decode cX11_first 60 = .ok (.if_icmp .ge 7, 3) := by decide +kernel
theorem dX11_first_63 : decode cX11_first 63 = .ok (.iload_n 3, 1) := by decide +kernel
theorem dX11_first_64 : decode cX11_first 64 = .ok (.goto 4, 3) := by decide +kernel
theorem dX11_first_67 : decode cX11_first 67 = .ok (.iconst (-1), 1) := by decide +kernel
theorem dX11_first_68 : decode cX11_first 68 = .ok (.ireturn, 1) := by decide +kernel
theorem bX11_first_0 {κ : gK} {M : MM} {Q : Int32 → MM → Prop} (l1 : Int32) (l2 : Int32)
    (h : Cl κ mX11_isPerson [.ref 119, .int l1] M (fun r1 M1 => ((r1 = 0 → G κ mX11_first 16 [.null, .null, .null, .null] [] M1 Q) ∧ (¬ r1 = 0 → Cl κ mX11_isLayer [.ref 119, .int l2] M1 (fun r2 M2 => ((r2 = 0 → G κ mX11_first 16 [.null, .null, .null, .null] [] M2 Q) ∧ (¬ r2 = 0 → Cl κ mX11_asides [.ref 119] M2 (fun _ M3 => G κ mX11_first 25 [.ref 119, .int l1, .int l2, .int (0 : Int32)] [] M3 Q)))))))) :
    G κ mX11_first 0 [.ref 119, .int l1, .int l2, .null] [] M Q := by
  refine g_aload_n (i := 0) dX11_first_0 rfl rfl ?_
  refine g_iload_n (i := 1) dX11_first_1 rfl rfl ?_
  refine gc_RX11_195 rfl (Nat.le_of_ble_eq_true rfl) dX11_first_2 sh_119 (Nat.le_of_ble_eq_true rfl) ?_
  refine Cl.mono h (fun r1 M1 h => ?_)
  refine g_if_eq (tgt := 16) dX11_first_5 rfl ⟨fun hc => ?_, fun hc => ?_⟩
  · replace h := h.1 hc
    exact g_sub _ (sub_c (Or.inl rfl) (sub_c (Or.inl rfl) (sub_c (Or.inl rfl) (sub_c (Or.inr rfl) sub_n)))) h
  · replace h := h.2 hc
    refine g_aload_n (i := 0) dX11_first_8 rfl rfl ?_
    refine g_iload_n (i := 2) dX11_first_9 rfl rfl ?_
    refine gc_RX11_203 rfl (Nat.le_of_ble_eq_true rfl) dX11_first_10 sh_119 (Nat.le_of_ble_eq_true rfl) ?_
    refine Cl.mono h (fun r2 M2 h => ?_)
    refine g_if_ne (tgt := 19) dX11_first_13 rfl ⟨fun hc => ?_, fun hc => ?_⟩
    · replace h := h.1 hc
      exact g_sub _ (sub_c (Or.inl rfl) (sub_c (Or.inl rfl) (sub_c (Or.inl rfl) (sub_c (Or.inr rfl) sub_n)))) h
    · replace h := h.2 hc
      refine g_aload_n (i := 0) dX11_first_19 rfl rfl ?_
      refine gc_RX11_235 rfl (Nat.le_of_ble_eq_true rfl) dX11_first_20 sh_119 (Nat.le_of_ble_eq_true rfl) ?_
      refine Cl.mono h (fun r3 M3 h => ?_)
      refine g_iconst (v := (0 : Int32)) dX11_first_23 (by decide) ?_
      refine g_istore_n (i := 3) (L' := [.ref 119, .int l1, .int l2, .int (0 : Int32)]) dX11_first_24 rfl (Nat.le_of_ble_eq_true rfl) rfl rfl ?_
      exact h
theorem bX11_first_16 {κ : gK} {M : MM} {Q : Int32 → MM → Prop} 
    (h : Q (-1000000001 : Int32) M) :
    G κ mX11_first 16 [.null, .null, .null, .null] [] M Q := by
  refine g_ldc dX11_first_16 wt_984 ?_
  exact g_iret dX11_first_18 rfl h
theorem bX11_first_25 {κ : gK} {M : MM} {Q : Int32 → MM → Prop} (l1 : Int32) (l2 : Int32) (l3 : Int32)
    (h : (((201 : Int32) ≤ l3 → G κ mX11_first 52 [.ref 119, .null, .null, .int l3] [] M Q) ∧ (¬ (201 : Int32) ≤ l3 → Cl κ mX11_isOn [.ref 119, .int l1, .int l2] M (fun r1 M1 => ((r1 = 0 → Cl κ mX11_goesOn [.ref 119, .int (1 : Int32)] M1 (fun _ M2 => G κ mX11_first 25 [.ref 119, .int l1, .int l2, .int (l3 + 1)] [] M2 Q)) ∧ (¬ r1 = 0 → G κ mX11_first 52 [.ref 119, .null, .null, .int l3] [] M1 Q)))))) :
    G κ mX11_first 25 [.ref 119, .int l1, .int l2, .int l3] [] M Q := by
  refine g_iload_n (i := 3) dX11_first_25 rfl rfl ?_
  refine g_sipush (v := (201 : Int32)) dX11_first_26 (by decide) ?_
  refine g_icmp_ge (tgt := 52) dX11_first_29 rfl ⟨fun hc => ?_, fun hc => ?_⟩
  · replace h := h.1 hc
    exact g_sub _ (sub_c (Or.inr rfl) (sub_c (Or.inl rfl) (sub_c (Or.inl rfl) (sub_c (Or.inr rfl) sub_n)))) h
  · replace h := h.2 hc
    refine g_aload_n (i := 0) dX11_first_32 rfl rfl ?_
    refine g_iload_n (i := 1) dX11_first_33 rfl rfl ?_
    refine g_iload_n (i := 2) dX11_first_34 rfl rfl ?_
    refine gc_RX11_96 rfl (Nat.le_of_ble_eq_true rfl) dX11_first_35 sh_119 (Nat.le_of_ble_eq_true rfl) ?_
    refine Cl.mono h (fun r1 M1 h => ?_)
    refine g_if_ne (tgt := 52) dX11_first_38 rfl ⟨fun hc => ?_, fun hc => ?_⟩
    · replace h := h.1 hc
      refine g_aload_n (i := 0) dX11_first_41 rfl rfl ?_
      refine g_iconst (v := (1 : Int32)) dX11_first_42 (by decide) ?_
      refine gc_RX11_212 rfl (Nat.le_of_ble_eq_true rfl) dX11_first_43 sh_119 (Nat.le_of_ble_eq_true rfl) ?_
      refine Cl.mono h (fun r2 M2 h => ?_)
      refine g_iinc (v := (l3 + 1)) (L' := [.ref 119, .int l1, .int l2, .int (l3 + 1)]) dX11_first_46 rfl rfl (Nat.le_of_ble_eq_true rfl) rfl rfl ?_
      refine g_goto (tgt := 25) dX11_first_49 rfl ?_
      exact h
    · replace h := h.2 hc
      exact g_sub _ (sub_c (Or.inr rfl) (sub_c (Or.inl rfl) (sub_c (Or.inl rfl) (sub_c (Or.inr rfl) sub_n)))) h
theorem bX11_first_52 {κ : gK} {M : MM} {Q : Int32 → MM → Prop} (l3 : Int32)
    (h : Cl κ mX11_backs [.ref 119] M (fun _ M1 => (((201 : Int32) ≤ l3 → G κ mX11_first 68 [.null, .null, .null, .null] [.int (-1 : Int32)] M1 Q) ∧ (¬ (201 : Int32) ≤ l3 → G κ mX11_first 68 [.null, .null, .null, .null] [.int l3] M1 Q)))) :
    G κ mX11_first 52 [.ref 119, .null, .null, .int l3] [] M Q := by
  refine g_aload_n (i := 0) dX11_first_52 rfl rfl ?_
  refine gc_RX11_238 rfl (Nat.le_of_ble_eq_true rfl) dX11_first_53 sh_119 (Nat.le_of_ble_eq_true rfl) ?_
  refine Cl.mono h (fun r1 M1 h => ?_)
  refine g_iload_n (i := 3) dX11_first_56 rfl rfl ?_
  refine g_sipush (v := (201 : Int32)) dX11_first_57 (by decide) ?_
  refine g_icmp_ge (tgt := 67) dX11_first_60 rfl ⟨fun hc => ?_, fun hc => ?_⟩
  · replace h := h.1 hc
    refine g_iconst (v := (-1 : Int32)) dX11_first_67 (by decide) ?_
    exact g_sub _ (sub_c (Or.inl rfl) (sub_c (Or.inr rfl) (sub_c (Or.inr rfl) (sub_c (Or.inl rfl) sub_n)))) h
  · replace h := h.2 hc
    refine g_iload_n (i := 3) dX11_first_63 rfl rfl ?_
    refine g_goto (tgt := 68) dX11_first_64 rfl ?_
    exact g_sub _ (sub_c (Or.inl rfl) (sub_c (Or.inr rfl) (sub_c (Or.inr rfl) (sub_c (Or.inl rfl) sub_n)))) h
theorem bX11_first_68 {κ : gK} {M : MM} {Q : Int32 → MM → Prop} (s0 : Int32)
    (h : Q s0 M) :
    G κ mX11_first 68 [.null, .null, .null, .null] [.int s0] M Q := by
  exact g_iret dX11_first_68 rfl h
theorem eX11_first {κ : gK} {M : MM} {Q : Int32 → MM → Prop} (l1 : Int32) (l2 : Int32)
    (h : G κ mX11_first 0 [.ref 119, .int l1, .int l2, .null] [] M Q) : Cl κ mX11_first [.ref 119, .int l1, .int l2] M Q := g_entry 1 pl_X11_first (Nat.le_of_ble_eq_true rfl) (L := [.ref 119, .int l1, .int l2, .null]) rfl (g_sub _ (sub_c (Or.inr rfl) (sub_c (Or.inr rfl) (sub_c (Or.inr rfl) (sub_c (Or.inr rfl) sub_n)))) h)
theorem dX11_common_0 : decode cX11_common 0 = .ok (.iconst 1, 1) := by decide +kernel
theorem dX11_common_1 : decode cX11_common 1 = .ok (.aload_n 0, 1) := by decide +kernel
theorem dX11_common_2 : decode cX11_common 2 = .ok (.getfield 67, 3) := by decide +kernel
theorem dX11_common_5 : decode cX11_common 5 = .ok (.ishl, 1) := by decide +kernel
theorem dX11_common_6 : decode cX11_common 6 = .ok (.iconst 1, 1) := by decide +kernel
theorem dX11_common_7 : decode cX11_common 7 = .ok (.isub, 1) := by decide +kernel
theorem dX11_common_8 : decode cX11_common 8 = .ok (.istore_n 2, 1) := by decide +kernel
theorem dX11_common_9 : decode cX11_common 9 = .ok (.iconst 0, 1) := by decide +kernel
theorem dX11_common_10 : decode cX11_common 10 = .ok (.istore_n 3, 1) := by decide +kernel
theorem dX11_common_11 : decode cX11_common 11 = .ok (.iload_n 3, 1) := by decide +kernel
theorem dX11_common_12 : decode cX11_common 12 = .ok (.aload_n 0, 1) := by decide +kernel
theorem dX11_common_13 : decode cX11_common 13 = .ok (.getfield 60, 3) := by decide +kernel
theorem dX11_common_16 : decode cX11_common 16 = .ok (.if_icmp .ge 30, 3) := by decide +kernel
theorem dX11_common_19 : decode cX11_common 19 = .ok (.iload_n 2, 1) := by decide +kernel
theorem dX11_common_20 : decode cX11_common 20 = .ok (.iload_n 1, 1) := by decide +kernel
theorem dX11_common_21 : decode cX11_common 21 = .ok (.iload_n 3, 1) := by decide +kernel
theorem dX11_common_22 : decode cX11_common 22 = .ok (.ishr, 1) := by decide +kernel
theorem dX11_common_23 : decode cX11_common 23 = .ok (.iconst 1, 1) := by decide +kernel
theorem dX11_common_24 : decode cX11_common 24 = .ok (.iand, 1) := by decide +kernel
theorem dX11_common_25 : decode cX11_common 25 = .ok (.iconst 1, 1) := by decide +kernel
theorem dX11_common_26 : decode cX11_common 26 = .ok (.if_icmp .ne 11, 3) := by decide +kernel
theorem dX11_common_29 : decode cX11_common 29 = .ok (.aload_n 0, 1) := by decide +kernel
theorem dX11_common_30 : decode cX11_common 30 = .ok (.iload_n 3, 1) := by decide +kernel
theorem dX11_common_31 : decode cX11_common 31 = .ok (.invokevirtual 70, 3) := by decide +kernel
theorem dX11_common_34 : decode cX11_common 34 = .ok (.goto 4, 3) := by decide +kernel
theorem dX11_common_37 : decode cX11_common 37 = .ok (.iload_n 2, 1) := by decide +kernel
theorem dX11_common_38 : decode cX11_common 38 = .ok (.iand, 1) := by decide +kernel
theorem dX11_common_39 : decode cX11_common 39 = .ok (.istore_n 2, 1) := by decide +kernel
theorem dX11_common_40 : decode cX11_common 40 = .ok (.iinc 3 1, 3) := by decide +kernel
theorem dX11_common_43 : decode cX11_common 43 = .ok (.goto (-32), 3) := by decide +kernel
theorem dX11_common_46 : decode cX11_common 46 = .ok (.iload_n 2, 1) := by decide +kernel
theorem dX11_common_47 : decode cX11_common 47 = .ok (.ireturn, 1) := by decide +kernel
theorem bX11_common_0 {κ : gK} {M : MM} {Q : Int32 → MM → Prop} (l1 : Int32)
    (h : ∀ v1 : Int32, v1 = ((jshl (1 : Int32) (M 119 0)) - (1 : Int32)) → (G κ mX11_common 11 [.ref 119, .int l1, .int v1, .int (0 : Int32)] [] M Q)) :
    G κ mX11_common 0 [.ref 119, .int l1, .null, .null] [] M Q := by
  refine g_iconst (v := (1 : Int32)) dX11_common_0 (by decide) ?_
  refine g_aload_n (i := 0) dX11_common_1 rfl rfl ?_
  refine gf_RX11_67 rfl dX11_common_2 sh_119 ?_
  refine g_ishl dX11_common_5 ?_
  refine g_iconst (v := (1 : Int32)) dX11_common_6 (by decide) ?_
  refine g_isub dX11_common_7 ?_
  refine lv_nm (fun v1 hn1 => ?_) (x := ((jshl (1 : Int32) (M 119 0)) - (1 : Int32)))
  replace h := h v1 hn1
  refine g_istore_n (i := 2) (L' := [.ref 119, .int l1, .int v1, .null]) dX11_common_8 rfl (Nat.le_of_ble_eq_true rfl) rfl rfl ?_
  refine g_iconst (v := (0 : Int32)) dX11_common_9 (by decide) ?_
  refine g_istore_n (i := 3) (L' := [.ref 119, .int l1, .int v1, .int (0 : Int32)]) dX11_common_10 rfl (Nat.le_of_ble_eq_true rfl) rfl rfl ?_
  exact h
theorem bX11_common_11 {κ : gK} {M : MM} {Q : Int32 → MM → Prop} (l1 : Int32) (l2 : Int32) (l3 : Int32)
    (h : (((M 119 2) ≤ l3 → Q l2 M) ∧ (¬ (M 119 2) ≤ l3 → ((((jshr l1 l3) &&& (1 : Int32)) = (1 : Int32) → Cl κ mX11_layersOf [.ref 119, .int l3] M (fun r1 M1 => G κ mX11_common 38 [.ref 119, .int l1, .null, .int l3] [.int r1, .int l2] M1 Q)) ∧ (¬ ((jshr l1 l3) &&& (1 : Int32)) = (1 : Int32) → G κ mX11_common 38 [.ref 119, .int l1, .null, .int l3] [.int l2, .int l2] M Q))))) :
    G κ mX11_common 11 [.ref 119, .int l1, .int l2, .int l3] [] M Q := by
  refine g_iload_n (i := 3) dX11_common_11 rfl rfl ?_
  refine g_aload_n (i := 0) dX11_common_12 rfl rfl ?_
  refine gf_RX11_60 rfl dX11_common_13 sh_119 ?_
  refine g_icmp_ge (tgt := 46) dX11_common_16 rfl ⟨fun hc => ?_, fun hc => ?_⟩
  · replace h := h.1 hc
    refine g_iload_n (i := 2) dX11_common_46 rfl rfl ?_
    exact g_iret dX11_common_47 rfl h
  · replace h := h.2 hc
    refine g_iload_n (i := 2) dX11_common_19 rfl rfl ?_
    refine g_iload_n (i := 1) dX11_common_20 rfl rfl ?_
    refine g_iload_n (i := 3) dX11_common_21 rfl rfl ?_
    refine g_ishr dX11_common_22 ?_
    refine g_iconst (v := (1 : Int32)) dX11_common_23 (by decide) ?_
    refine g_iand dX11_common_24 ?_
    refine g_iconst (v := (1 : Int32)) dX11_common_25 (by decide) ?_
    refine g_icmp_ne (tgt := 37) dX11_common_26 rfl ⟨fun hc => ?_, fun hc => ?_⟩
    · replace h := h.1 hc
      refine g_aload_n (i := 0) dX11_common_29 rfl rfl ?_
      refine g_iload_n (i := 3) dX11_common_30 rfl rfl ?_
      refine gc_RX11_70 rfl (Nat.le_of_ble_eq_true rfl) dX11_common_31 sh_119 (Nat.le_of_ble_eq_true rfl) ?_
      refine Cl.mono h (fun r1 M1 h => ?_)
      refine g_goto (tgt := 38) dX11_common_34 rfl ?_
      exact g_sub _ (sub_c (Or.inr rfl) (sub_c (Or.inr rfl) (sub_c (Or.inl rfl) (sub_c (Or.inr rfl) sub_n)))) h
    · replace h := h.2 hc
      refine g_iload_n (i := 2) dX11_common_37 rfl rfl ?_
      exact g_sub _ (sub_c (Or.inr rfl) (sub_c (Or.inr rfl) (sub_c (Or.inl rfl) (sub_c (Or.inr rfl) sub_n)))) h
theorem bX11_common_38 {κ : gK} {M : MM} {Q : Int32 → MM → Prop} (l1 : Int32) (l3 : Int32) (s0 : Int32) (s1 : Int32)
    (h : G κ mX11_common 11 [.ref 119, .int l1, .int (s1 &&& s0), .int (l3 + 1)] [] M Q) :
    G κ mX11_common 38 [.ref 119, .int l1, .null, .int l3] [.int s0, .int s1] M Q := by
  refine g_iand dX11_common_38 ?_
  refine g_istore_n (i := 2) (L' := [.ref 119, .int l1, .int (s1 &&& s0), .int l3]) dX11_common_39 rfl (Nat.le_of_ble_eq_true rfl) rfl rfl ?_
  refine g_iinc (v := (l3 + 1)) (L' := [.ref 119, .int l1, .int (s1 &&& s0), .int (l3 + 1)]) dX11_common_40 rfl rfl (Nat.le_of_ble_eq_true rfl) rfl rfl ?_
  refine g_goto (tgt := 11) dX11_common_43 rfl ?_
  exact h
theorem eX11_common {κ : gK} {M : MM} {Q : Int32 → MM → Prop} (l1 : Int32)
    (h : G κ mX11_common 0 [.ref 119, .int l1, .null, .null] [] M Q) : Cl κ mX11_common [.ref 119, .int l1] M Q := g_entry 2 pl_X11_common (Nat.le_of_ble_eq_true rfl) (L := [.ref 119, .int l1, .null, .null]) rfl (g_sub _ (sub_c (Or.inr rfl) (sub_c (Or.inr rfl) (sub_c (Or.inr rfl) (sub_c (Or.inr rfl) sub_n)))) h)
theorem dX11_together_0 : decode cX11_together 0 = .ok (.aload_n 0, 1) := by decide +kernel
theorem dX11_together_1 : decode cX11_together 1 = .ok (.iload_n 1, 1) := by decide +kernel
theorem dX11_together_2 : decode cX11_together 2 = .ok (.invokevirtual 241, 3) := by decide +kernel
theorem dX11_together_5 : decode cX11_together 5 = .ok (.ifCond .ne 6, 3) := by decide +kernel
theorem dX11_together_8 : decode cX11_together 8 = .ok (.ldc 199, 2) := by decide +kernel
theorem dX11_together_10 : decode cX11_together 10 = .ok (.ireturn, 1) := by decide +kernel
theorem dX11_together_11 : decode cX11_together 11 = .ok (.aload_n 0, 1) := by decide +kernel
theorem dX11_together_12 : decode cX11_together 12 = .ok (.invokevirtual 179, 3) := by decide +kernel
theorem dX11_together_15 : decode cX11_together 15 = .ok (.ifCond .ne 6, 3) := by decide +kernel
theorem dX11_together_18 : decode cX11_together 18 = .ok (.ldc 208, 2) := by decide +kernel
theorem dX11_together_20 : decode cX11_together 20 = .ok (.ireturn, 1) := by decide +kernel
theorem dX11_together_21 : decode cX11_together 21 = .ok (.aload_n 0, 1) := by decide +kernel
theorem dX11_together_22 : decode cX11_together 22 = .ok (.invokevirtual 235, 3) := by decide +kernel
theorem dX11_together_25 : decode cX11_together 25 = .ok (.iconst 0, 1) := by decide +kernel
theorem dX11_together_26 : decode cX11_together 26 = .ok (.istore_n 2, 1) := by decide +kernel
theorem dX11_together_27 : decode cX11_together 27 = .ok (.iload_n 2, 1) := by decide +kernel
theorem dX11_together_28 : decode cX11_together 28 = .ok (.sipush 201, 3) := by decide +kernel
theorem dX11_together_31 : decode cX11_together 31 = .ok (.if_icmp .ge 22, 3) := by decide +kernel
theorem dX11_together_34 : decode cX11_together 34 = .ok (.aload_n 0, 1) := by decide +kernel
theorem dX11_together_35 : decode cX11_together 35 = .ok (.iload_n 1, 1) := by decide +kernel
theorem dX11_together_36 : decode cX11_together 36 = .ok (.invokevirtual 244, 3) := by decide +kernel
theorem dX11_together_39 : decode cX11_together 39 = .ok (.ifCond .ne 14, 3) := by decide +kernel
theorem dX11_together_42 : decode cX11_together 42 = .ok (.aload_n 0, 1) := by decide +kernel
theorem dX11_together_43 : decode cX11_together 43 = .ok (.iconst 1, 1) := by decide +kernel
theorem dX11_together_44 : decode cX11_together 44 = .ok (.invokevirtual 212, 3) := by decide +kernel
theorem dX11_together_47 : decode cX11_together 47 = .ok (.iinc 2 1, 3) := by decide +kernel
theorem dX11_together_50 : decode cX11_together 50 = .ok (.goto (-23), 3) := by decide +kernel
theorem dX11_together_53 : decode cX11_together 53 = .ok (.aload_n 0, 1) := by decide +kernel
theorem dX11_together_54 : decode cX11_together 54 = .ok (.invokevirtual 238, 3) := by decide +kernel
theorem dX11_together_57 : decode cX11_together 57 = .ok (.iload_n 2, 1) := by decide +kernel
theorem dX11_together_58 : decode cX11_together 58 = .ok (.sipush 201, 3) := by decide +kernel
theorem dX11_together_61 : decode cX11_together 61 = .ok (.if_icmp .ge 7, 3) := by decide +kernel
theorem dX11_together_64 : decode cX11_together 64 = .ok (.iload_n 2, 1) := by decide +kernel
theorem dX11_together_65 : decode cX11_together 65 = .ok (.goto 4, 3) := by decide +kernel
theorem dX11_together_68 : decode cX11_together 68 = .ok (.iconst (-1), 1) := by decide +kernel
theorem dX11_together_69 : decode cX11_together 69 = .ok (.ireturn, 1) := by decide +kernel
theorem bX11_together_0 {κ : gK} {M : MM} {Q : Int32 → MM → Prop} (l1 : Int32)
    (h : Cl κ mX11_areThere [.ref 119, .int l1] M (fun r1 M1 => ((r1 = 0 → Q (-1000000001 : Int32) M1) ∧ (¬ r1 = 0 → Cl κ mX11_isTown [.ref 119] M1 (fun r2 M2 => ((r2 = 0 → Q (-1000000003 : Int32) M2) ∧ (¬ r2 = 0 → Cl κ mX11_asides [.ref 119] M2 (fun _ M3 => G κ mX11_together 27 [.ref 119, .int l1, .int (0 : Int32)] [] M3 Q)))))))) :
    G κ mX11_together 0 [.ref 119, .int l1, .null] [] M Q := by
  refine g_aload_n (i := 0) dX11_together_0 rfl rfl ?_
  refine g_iload_n (i := 1) dX11_together_1 rfl rfl ?_
  refine gc_RX11_241 rfl (Nat.le_of_ble_eq_true rfl) dX11_together_2 sh_119 (Nat.le_of_ble_eq_true rfl) ?_
  refine Cl.mono h (fun r1 M1 h => ?_)
  refine g_if_ne (tgt := 11) dX11_together_5 rfl ⟨fun hc => ?_, fun hc => ?_⟩
  · replace h := h.1 hc
    refine g_ldc dX11_together_8 wt_984 ?_
    exact g_iret dX11_together_10 rfl h
  · replace h := h.2 hc
    refine g_aload_n (i := 0) dX11_together_11 rfl rfl ?_
    refine gc_RX11_179 rfl (Nat.le_of_ble_eq_true rfl) dX11_together_12 sh_119 (Nat.le_of_ble_eq_true rfl) ?_
    refine Cl.mono h (fun r2 M2 h => ?_)
    refine g_if_ne (tgt := 21) dX11_together_15 rfl ⟨fun hc => ?_, fun hc => ?_⟩
    · replace h := h.1 hc
      refine g_ldc dX11_together_18 wt_1002 ?_
      exact g_iret dX11_together_20 rfl h
    · replace h := h.2 hc
      refine g_aload_n (i := 0) dX11_together_21 rfl rfl ?_
      refine gc_RX11_235 rfl (Nat.le_of_ble_eq_true rfl) dX11_together_22 sh_119 (Nat.le_of_ble_eq_true rfl) ?_
      refine Cl.mono h (fun r3 M3 h => ?_)
      refine g_iconst (v := (0 : Int32)) dX11_together_25 (by decide) ?_
      refine g_istore_n (i := 2) (L' := [.ref 119, .int l1, .int (0 : Int32)]) dX11_together_26 rfl (Nat.le_of_ble_eq_true rfl) rfl rfl ?_
      exact h
theorem bX11_together_27 {κ : gK} {M : MM} {Q : Int32 → MM → Prop} (l1 : Int32) (l2 : Int32)
    (h : (((201 : Int32) ≤ l2 → G κ mX11_together 53 [.ref 119, .null, .int l2] [] M Q) ∧ (¬ (201 : Int32) ≤ l2 → Cl κ mX11_common [.ref 119, .int l1] M (fun r1 M1 => ((r1 = 0 → Cl κ mX11_goesOn [.ref 119, .int (1 : Int32)] M1 (fun _ M2 => G κ mX11_together 27 [.ref 119, .int l1, .int (l2 + 1)] [] M2 Q)) ∧ (¬ r1 = 0 → G κ mX11_together 53 [.ref 119, .null, .int l2] [] M1 Q)))))) :
    G κ mX11_together 27 [.ref 119, .int l1, .int l2] [] M Q := by
  refine g_iload_n (i := 2) dX11_together_27 rfl rfl ?_
  refine g_sipush (v := (201 : Int32)) dX11_together_28 (by decide) ?_
  refine g_icmp_ge (tgt := 53) dX11_together_31 rfl ⟨fun hc => ?_, fun hc => ?_⟩
  · replace h := h.1 hc
    exact g_sub _ (sub_c (Or.inr rfl) (sub_c (Or.inl rfl) (sub_c (Or.inr rfl) sub_n))) h
  · replace h := h.2 hc
    refine g_aload_n (i := 0) dX11_together_34 rfl rfl ?_
    refine g_iload_n (i := 1) dX11_together_35 rfl rfl ?_
    refine gc_RX11_244 rfl (Nat.le_of_ble_eq_true rfl) dX11_together_36 sh_119 (Nat.le_of_ble_eq_true rfl) ?_
    refine Cl.mono h (fun r1 M1 h => ?_)
    refine g_if_ne (tgt := 53) dX11_together_39 rfl ⟨fun hc => ?_, fun hc => ?_⟩
    · replace h := h.1 hc
      refine g_aload_n (i := 0) dX11_together_42 rfl rfl ?_
      refine g_iconst (v := (1 : Int32)) dX11_together_43 (by decide) ?_
      refine gc_RX11_212 rfl (Nat.le_of_ble_eq_true rfl) dX11_together_44 sh_119 (Nat.le_of_ble_eq_true rfl) ?_
      refine Cl.mono h (fun r2 M2 h => ?_)
      refine g_iinc (v := (l2 + 1)) (L' := [.ref 119, .int l1, .int (l2 + 1)]) dX11_together_47 rfl rfl (Nat.le_of_ble_eq_true rfl) rfl rfl ?_
      refine g_goto (tgt := 27) dX11_together_50 rfl ?_
      exact h
    · replace h := h.2 hc
      exact g_sub _ (sub_c (Or.inr rfl) (sub_c (Or.inl rfl) (sub_c (Or.inr rfl) sub_n))) h
theorem bX11_together_53 {κ : gK} {M : MM} {Q : Int32 → MM → Prop} (l2 : Int32)
    (h : Cl κ mX11_backs [.ref 119] M (fun _ M1 => (((201 : Int32) ≤ l2 → G κ mX11_together 69 [.null, .null, .null] [.int (-1 : Int32)] M1 Q) ∧ (¬ (201 : Int32) ≤ l2 → G κ mX11_together 69 [.null, .null, .null] [.int l2] M1 Q)))) :
    G κ mX11_together 53 [.ref 119, .null, .int l2] [] M Q := by
  refine g_aload_n (i := 0) dX11_together_53 rfl rfl ?_
  refine gc_RX11_238 rfl (Nat.le_of_ble_eq_true rfl) dX11_together_54 sh_119 (Nat.le_of_ble_eq_true rfl) ?_
  refine Cl.mono h (fun r1 M1 h => ?_)
  refine g_iload_n (i := 2) dX11_together_57 rfl rfl ?_
  refine g_sipush (v := (201 : Int32)) dX11_together_58 (by decide) ?_
  refine g_icmp_ge (tgt := 68) dX11_together_61 rfl ⟨fun hc => ?_, fun hc => ?_⟩
  · replace h := h.1 hc
    refine g_iconst (v := (-1 : Int32)) dX11_together_68 (by decide) ?_
    exact g_sub _ (sub_c (Or.inl rfl) (sub_c (Or.inr rfl) (sub_c (Or.inl rfl) sub_n))) h
  · replace h := h.2 hc
    refine g_iload_n (i := 2) dX11_together_64 rfl rfl ?_
    refine g_goto (tgt := 69) dX11_together_65 rfl ?_
    exact g_sub _ (sub_c (Or.inl rfl) (sub_c (Or.inr rfl) (sub_c (Or.inl rfl) sub_n))) h
theorem bX11_together_69 {κ : gK} {M : MM} {Q : Int32 → MM → Prop} (s0 : Int32)
    (h : Q s0 M) :
    G κ mX11_together 69 [.null, .null, .null] [.int s0] M Q := by
  exact g_iret dX11_together_69 rfl h
theorem eX11_together {κ : gK} {M : MM} {Q : Int32 → MM → Prop} (l1 : Int32)
    (h : G κ mX11_together 0 [.ref 119, .int l1, .null] [] M Q) : Cl κ mX11_together [.ref 119, .int l1] M Q := g_entry 1 pl_X11_together (Nat.le_of_ble_eq_true rfl) (L := [.ref 119, .int l1, .null]) rfl (g_sub _ (sub_c (Or.inr rfl) (sub_c (Or.inr rfl) (sub_c (Or.inr rfl) sub_n))) h)
theorem dX11_isAside_0 : decode cX11_isAside 0 = .ok (.iconst 1, 1) := by decide +kernel
theorem dX11_isAside_1 : decode cX11_isAside 1 = .ok (.istore_n 1, 1) := by decide +kernel
theorem dX11_isAside_2 : decode cX11_isAside 2 = .ok (.iconst 0, 1) := by decide +kernel
theorem dX11_isAside_3 : decode cX11_isAside 3 = .ok (.istore_n 2, 1) := by decide +kernel
theorem dX11_isAside_4 : decode cX11_isAside 4 = .ok (.iload_n 2, 1) := by decide +kernel
theorem dX11_isAside_5 : decode cX11_isAside 5 = .ok (.aload_n 0, 1) := by decide +kernel
theorem dX11_isAside_6 : decode cX11_isAside 6 = .ok (.getfield 60, 3) := by decide +kernel
theorem dX11_isAside_9 : decode cX11_isAside 9 = .ok (.if_icmp .ge 35, 3) := by decide +kernel
theorem dX11_isAside_12 : decode cX11_isAside 12 = .ok (.iload_n 1, 1) := by decide +kernel
theorem dX11_isAside_13 : decode cX11_isAside 13 = .ok (.ifCond .eq 23, 3) := by decide +kernel
theorem dX11_isAside_16 : decode cX11_isAside 16 = .ok (.aload_n 0, 1) := by decide +kernel
theorem dX11_isAside_17 : decode cX11_isAside 17 = .ok (.iload_n 2, 1) := by decide +kernel
theorem dX11_isAside_18 : decode cX11_isAside 18 = .ok (.invokevirtual 70, 3) := by decide +kernel
theorem dX11_isAside_21 : decode cX11_isAside 21 = .ok (.aload_n 0, 1) := by decide +kernel
theorem dX11_isAside_22 : decode cX11_isAside 22 = .ok (.getfield 35, 3) := by decide +kernel
theorem dX11_isAside_25 : decode cX11_isAside 25 = .ok (.iconst 2, 1) := by decide +kernel
theorem dX11_isAside_26 : decode cX11_isAside 26 = .ok (.iload_n 2, 1) := by decide +kernel
theorem dX11_isAside_27 : decode cX11_isAside 27 = .ok (.iadd, 1) := by decide +kernel
theorem dX11_isAside_28 : decode cX11_isAside 28 = .ok (.iaload, 1) := by decide +kernel
theorem dX11_isAside_29 : decode cX11_isAside 29 = .ok (.if_icmp .ne 7, 3) := by decide +kernel
theorem dX11_isAside_32 : decode cX11_isAside 32 = .ok (.iconst 1, 1) := by decide +kernel
theorem dX11_isAside_33 : decode cX11_isAside 33 = .ok (.goto 4, 3) := by decide +kernel
theorem dX11_isAside_36 : decode cX11_isAside 36 = .ok (.iconst 0, 1) := by decide +kernel
theorem dX11_isAside_37 : decode cX11_isAside 37 = .ok (.istore_n 1, 1) := by decide +kernel
theorem dX11_isAside_38 : decode cX11_isAside 38 = .ok (.iinc 2 1, 3) := by decide +kernel
theorem dX11_isAside_41 : decode cX11_isAside 41 = .ok (.goto (-37), 3) := by decide +kernel
theorem dX11_isAside_44 : decode cX11_isAside 44 = .ok (.iload_n 1, 1) := by decide +kernel
theorem dX11_isAside_45 : decode cX11_isAside 45 = .ok (.ireturn, 1) := by decide +kernel
theorem bX11_isAside_0 {κ : gK} {M : MM} {Q : Int32 → MM → Prop} 
    (h : G κ mX11_isAside 4 [.ref 119, .int (1 : Int32), .int (0 : Int32)] [] M Q) :
    G κ mX11_isAside 0 [.ref 119, .null, .null] [] M Q := by
  refine g_iconst (v := (1 : Int32)) dX11_isAside_0 (by decide) ?_
  refine g_istore_n (i := 1) (L' := [.ref 119, .int (1 : Int32), .null]) dX11_isAside_1 rfl (Nat.le_of_ble_eq_true rfl) rfl rfl ?_
  refine g_iconst (v := (0 : Int32)) dX11_isAside_2 (by decide) ?_
  refine g_istore_n (i := 2) (L' := [.ref 119, .int (1 : Int32), .int (0 : Int32)]) dX11_isAside_3 rfl (Nat.le_of_ble_eq_true rfl) rfl rfl ?_
  exact h
theorem bX11_isAside_4 {κ : gK} {M : MM} {Q : Int32 → MM → Prop} (l1 : Int32) (l2 : Int32)
    (h : (((M 119 2) ≤ l2 → (isB l1 ∧ Q l1 M)) ∧ (¬ (M 119 2) ≤ l2 → ((l1 = 0 → G κ mX11_isAside 36 [.ref 119, .null, .int l2] [] M Q) ∧ (¬ l1 = 0 → Cl κ mX11_layersOf [.ref 119, .int l2] M (fun r1 M1 => (vp_in ((2 : Int32) + l2) 26) ∧ (((r1 = (M1 127 (((2 : Int32) + l2)).toNatClampNeg) → G κ mX11_isAside 37 [.ref 119, .null, .int l2] [.int (1 : Int32)] M1 Q) ∧ (¬ r1 = (M1 127 (((2 : Int32) + l2)).toNatClampNeg) → G κ mX11_isAside 36 [.ref 119, .null, .int l2] [] M1 Q))))))))) :
    G κ mX11_isAside 4 [.ref 119, .int l1, .int l2] [] M Q := by
  refine g_iload_n (i := 2) dX11_isAside_4 rfl rfl ?_
  refine g_aload_n (i := 0) dX11_isAside_5 rfl rfl ?_
  refine gf_RX11_60 rfl dX11_isAside_6 sh_119 ?_
  refine g_icmp_ge (tgt := 44) dX11_isAside_9 rfl ⟨fun hc => ?_, fun hc => ?_⟩
  · replace h := h.1 hc
    refine g_iload_n (i := 1) dX11_isAside_44 rfl rfl ?_
    exact g_zret dX11_isAside_45 rfl (isB_n h.1) h.2
  · replace h := h.2 hc
    refine g_iload_n (i := 1) dX11_isAside_12 rfl rfl ?_
    refine g_if_eq (tgt := 36) dX11_isAside_13 rfl ⟨fun hc => ?_, fun hc => ?_⟩
    · replace h := h.1 hc
      exact g_sub _ (sub_c (Or.inr rfl) (sub_c (Or.inl rfl) (sub_c (Or.inr rfl) sub_n))) h
    · replace h := h.2 hc
      refine g_aload_n (i := 0) dX11_isAside_16 rfl rfl ?_
      refine g_iload_n (i := 2) dX11_isAside_17 rfl rfl ?_
      refine gc_RX11_70 rfl (Nat.le_of_ble_eq_true rfl) dX11_isAside_18 sh_119 (Nat.le_of_ble_eq_true rfl) ?_
      refine Cl.mono h (fun r1 M1 h => ?_)
      refine g_aload_n (i := 0) dX11_isAside_21 rfl rfl ?_
      refine gf_RX11_35 rfl dX11_isAside_22 sh_119 ?_
      refine g_iconst (v := (2 : Int32)) dX11_isAside_25 (by decide) ?_
      refine g_iload_n (i := 2) dX11_isAside_26 rfl rfl ?_
      refine g_iadd dX11_isAside_27 ?_
      have hv1 := h.1; replace h := h.2
      refine g_iald dX11_isAside_28 sh_127 hv1 ?_
      refine g_icmp_ne (tgt := 36) dX11_isAside_29 rfl ⟨fun hc => ?_, fun hc => ?_⟩
      · replace h := h.1 hc
        refine g_iconst (v := (1 : Int32)) dX11_isAside_32 (by decide) ?_
        refine g_goto (tgt := 37) dX11_isAside_33 rfl ?_
        exact g_sub _ (sub_c (Or.inr rfl) (sub_c (Or.inl rfl) (sub_c (Or.inr rfl) sub_n))) h
      · replace h := h.2 hc
        exact g_sub _ (sub_c (Or.inr rfl) (sub_c (Or.inl rfl) (sub_c (Or.inr rfl) sub_n))) h
theorem bX11_isAside_36 {κ : gK} {M : MM} {Q : Int32 → MM → Prop} (l2 : Int32)
    (h : G κ mX11_isAside 37 [.ref 119, .null, .int l2] [.int (0 : Int32)] M Q) :
    G κ mX11_isAside 36 [.ref 119, .null, .int l2] [] M Q := by
  refine g_iconst (v := (0 : Int32)) dX11_isAside_36 (by decide) ?_
  exact h
theorem bX11_isAside_37 {κ : gK} {M : MM} {Q : Int32 → MM → Prop} (l2 : Int32) (s0 : Int32)
    (h : G κ mX11_isAside 4 [.ref 119, .int s0, .int (l2 + 1)] [] M Q) :
    G κ mX11_isAside 37 [.ref 119, .null, .int l2] [.int s0] M Q := by
  refine g_istore_n (i := 1) (L' := [.ref 119, .int s0, .int l2]) dX11_isAside_37 rfl (Nat.le_of_ble_eq_true rfl) rfl rfl ?_
  refine g_iinc (v := (l2 + 1)) (L' := [.ref 119, .int s0, .int (l2 + 1)]) dX11_isAside_38 rfl rfl (Nat.le_of_ble_eq_true rfl) rfl rfl ?_
  refine g_goto (tgt := 4) dX11_isAside_41 rfl ?_
  exact h
theorem eX11_isAside {κ : gK} {M : MM} {Q : Int32 → MM → Prop} 
    (h : G κ mX11_isAside 0 [.ref 119, .null, .null] [] M Q) : Cl κ mX11_isAside [.ref 119] M Q := g_entry 2 pl_X11_isAside (Nat.le_of_ble_eq_true rfl) (L := [.ref 119, .null, .null]) rfl (g_sub _ (sub_c (Or.inr rfl) (sub_c (Or.inr rfl) (sub_c (Or.inr rfl) sub_n))) h)
theorem dX11_asNow_0 : decode cX11_asNow 0 = .ok (.aload_n 0, 1) := by decide +kernel
theorem dX11_asNow_1 : decode cX11_asNow 1 = .ok (.invokevirtual 179, 3) := by decide +kernel
theorem dX11_asNow_4 : decode cX11_asNow 4 = .ok (.ifCond .ne 6, 3) := by decide +kernel
theorem dX11_asNow_7 : decode cX11_asNow 7 = .ok (.ldc 208, 2) := by decide +kernel
theorem dX11_asNow_9 : decode cX11_asNow 9 = .ok (.ireturn, 1) := by decide +kernel
theorem dX11_asNow_10 : decode cX11_asNow 10 = .ok (.aload_n 0, 1) := by decide +kernel
theorem dX11_asNow_11 : decode cX11_asNow 11 = .ok (.invokevirtual 235, 3) := by decide +kernel
theorem dX11_asNow_14 : decode cX11_asNow 14 = .ok (.iconst 0, 1) := by decide +kernel
theorem dX11_asNow_15 : decode cX11_asNow 15 = .ok (.istore_n 1, 1) := by decide +kernel
theorem dX11_asNow_16 : decode cX11_asNow 16 = .ok (.iconst 0, 1) := by decide +kernel
theorem dX11_asNow_17 : decode cX11_asNow 17 = .ok (.istore_n 2, 1) := by decide +kernel
theorem dX11_asNow_18 : decode cX11_asNow 18 = .ok (.iload_n 1, 1) := by decide +kernel
theorem dX11_asNow_19 : decode cX11_asNow 19 = .ok (.sipush 2000, 3) := by decide +kernel
theorem dX11_asNow_22 : decode cX11_asNow 22 = .ok (.if_icmp .ge 23, 3) := by decide +kernel
theorem dX11_asNow_25 : decode cX11_asNow 25 = .ok (.iload_n 2, 1) := by decide +kernel
theorem dX11_asNow_26 : decode cX11_asNow 26 = .ok (.ifCond .ne 19, 3) := by decide +kernel
theorem dX11_asNow_29 : decode cX11_asNow 29 = .ok (.aload_n 0, 1) := by decide +kernel
theorem dX11_asNow_30 : decode cX11_asNow 30 = .ok (.iconst 1, 1) := by decide +kernel
theorem dX11_asNow_31 : decode cX11_asNow 31 = .ok (.invokevirtual 212, 3) := by decide +kernel
theorem dX11_asNow_34 : decode cX11_asNow 34 = .ok (.iinc 1 1, 3) := by decide +kernel
theorem dX11_asNow_37 : decode cX11_asNow 37 = .ok (.aload_n 0, 1) := by decide +kernel
theorem dX11_asNow_38 : decode cX11_asNow 38 = .ok (.invokevirtual 247, 3) := by decide +kernel
theorem dX11_asNow_41 : decode cX11_asNow 41 = .ok (.istore_n 2, 1) := by decide +kernel
theorem dX11_asNow_42 : decode cX11_asNow 42 = .ok (.goto (-24), 3) := by decide +kernel
theorem dX11_asNow_45 : decode cX11_asNow 45 = .ok (.aload_n 0, 1) := by decide +kernel
theorem dX11_asNow_46 : decode cX11_asNow 46 = .ok (.invokevirtual 238, 3) := by decide +kernel
theorem dX11_asNow_49 : decode cX11_asNow 49 = .ok (.iload_n 2, 1) := by decide +kernel
theorem dX11_asNow_50 : decode cX11_asNow 50 = .ok (.ifCond .eq 7, 3) := by decide +kernel
theorem dX11_asNow_53 : decode cX11_asNow 53 = .ok (.iload_n 1, 1) := by decide +kernel
theorem dX11_asNow_54 : decode cX11_asNow 54 = .ok (.goto 4, 3) := by decide +kernel
theorem dX11_asNow_57 : decode cX11_asNow 57 = .ok (.iconst (-1), 1) := by decide +kernel
theorem dX11_asNow_58 : decode cX11_asNow 58 = .ok (.ireturn, 1) := by decide +kernel
theorem bX11_asNow_0 {κ : gK} {M : MM} {Q : Int32 → MM → Prop} 
    (h : Cl κ mX11_isTown [.ref 119] M (fun r1 M1 => ((r1 = 0 → Q (-1000000003 : Int32) M1) ∧ (¬ r1 = 0 → Cl κ mX11_asides [.ref 119] M1 (fun _ M2 => G κ mX11_asNow 18 [.ref 119, .int (0 : Int32), .int (0 : Int32)] [] M2 Q))))) :
    G κ mX11_asNow 0 [.ref 119, .null, .null] [] M Q := by
  refine g_aload_n (i := 0) dX11_asNow_0 rfl rfl ?_
  refine gc_RX11_179 rfl (Nat.le_of_ble_eq_true rfl) dX11_asNow_1 sh_119 (Nat.le_of_ble_eq_true rfl) ?_
  refine Cl.mono h (fun r1 M1 h => ?_)
  refine g_if_ne (tgt := 10) dX11_asNow_4 rfl ⟨fun hc => ?_, fun hc => ?_⟩
  · replace h := h.1 hc
    refine g_ldc dX11_asNow_7 wt_1002 ?_
    exact g_iret dX11_asNow_9 rfl h
  · replace h := h.2 hc
    refine g_aload_n (i := 0) dX11_asNow_10 rfl rfl ?_
    refine gc_RX11_235 rfl (Nat.le_of_ble_eq_true rfl) dX11_asNow_11 sh_119 (Nat.le_of_ble_eq_true rfl) ?_
    refine Cl.mono h (fun r2 M2 h => ?_)
    refine g_iconst (v := (0 : Int32)) dX11_asNow_14 (by decide) ?_
    refine g_istore_n (i := 1) (L' := [.ref 119, .int (0 : Int32), .null]) dX11_asNow_15 rfl (Nat.le_of_ble_eq_true rfl) rfl rfl ?_
    refine g_iconst (v := (0 : Int32)) dX11_asNow_16 (by decide) ?_
    refine g_istore_n (i := 2) (L' := [.ref 119, .int (0 : Int32), .int (0 : Int32)]) dX11_asNow_17 rfl (Nat.le_of_ble_eq_true rfl) rfl rfl ?_
    exact h
theorem bX11_asNow_18 {κ : gK} {M : MM} {Q : Int32 → MM → Prop} (l1 : Int32) (l2 : Int32)
    (h : (((2000 : Int32) ≤ l1 → G κ mX11_asNow 45 [.ref 119, .int l1, .int l2] [] M Q) ∧ (¬ (2000 : Int32) ≤ l1 → ((l2 = 0 → Cl κ mX11_goesOn [.ref 119, .int (1 : Int32)] M (fun _ M1 => Cl κ mX11_isAside [.ref 119] M1 (fun r2 M2 => G κ mX11_asNow 18 [.ref 119, .int (l1 + 1), .int r2] [] M2 Q))) ∧ (¬ l2 = 0 → G κ mX11_asNow 45 [.ref 119, .int l1, .int l2] [] M Q))))) :
    G κ mX11_asNow 18 [.ref 119, .int l1, .int l2] [] M Q := by
  refine g_iload_n (i := 1) dX11_asNow_18 rfl rfl ?_
  refine g_sipush (v := (2000 : Int32)) dX11_asNow_19 (by decide) ?_
  refine g_icmp_ge (tgt := 45) dX11_asNow_22 rfl ⟨fun hc => ?_, fun hc => ?_⟩
  · replace h := h.1 hc
    exact h
  · replace h := h.2 hc
    refine g_iload_n (i := 2) dX11_asNow_25 rfl rfl ?_
    refine g_if_ne (tgt := 45) dX11_asNow_26 rfl ⟨fun hc => ?_, fun hc => ?_⟩
    · replace h := h.1 hc
      refine g_aload_n (i := 0) dX11_asNow_29 rfl rfl ?_
      refine g_iconst (v := (1 : Int32)) dX11_asNow_30 (by decide) ?_
      refine gc_RX11_212 rfl (Nat.le_of_ble_eq_true rfl) dX11_asNow_31 sh_119 (Nat.le_of_ble_eq_true rfl) ?_
      refine Cl.mono h (fun r1 M1 h => ?_)
      refine g_iinc (v := (l1 + 1)) (L' := [.ref 119, .int (l1 + 1), .int l2]) dX11_asNow_34 rfl rfl (Nat.le_of_ble_eq_true rfl) rfl rfl ?_
      refine g_aload_n (i := 0) dX11_asNow_37 rfl rfl ?_
      refine gc_RX11_247 rfl (Nat.le_of_ble_eq_true rfl) dX11_asNow_38 sh_119 (Nat.le_of_ble_eq_true rfl) ?_
      refine Cl.mono h (fun r2 M2 h => ?_)
      refine g_istore_n (i := 2) (L' := [.ref 119, .int (l1 + 1), .int r2]) dX11_asNow_41 rfl (Nat.le_of_ble_eq_true rfl) rfl rfl ?_
      refine g_goto (tgt := 18) dX11_asNow_42 rfl ?_
      exact h
    · replace h := h.2 hc
      exact h
theorem bX11_asNow_45 {κ : gK} {M : MM} {Q : Int32 → MM → Prop} (l1 : Int32) (l2 : Int32)
    (h : Cl κ mX11_backs [.ref 119] M (fun _ M1 => ((l2 = 0 → G κ mX11_asNow 58 [.null, .null, .null] [.int (-1 : Int32)] M1 Q) ∧ (¬ l2 = 0 → G κ mX11_asNow 58 [.null, .null, .null] [.int l1] M1 Q)))) :
    G κ mX11_asNow 45 [.ref 119, .int l1, .int l2] [] M Q := by
  refine g_aload_n (i := 0) dX11_asNow_45 rfl rfl ?_
  refine gc_RX11_238 rfl (Nat.le_of_ble_eq_true rfl) dX11_asNow_46 sh_119 (Nat.le_of_ble_eq_true rfl) ?_
  refine Cl.mono h (fun r1 M1 h => ?_)
  refine g_iload_n (i := 2) dX11_asNow_49 rfl rfl ?_
  refine g_if_eq (tgt := 57) dX11_asNow_50 rfl ⟨fun hc => ?_, fun hc => ?_⟩
  · replace h := h.1 hc
    refine g_iconst (v := (-1 : Int32)) dX11_asNow_57 (by decide) ?_
    exact g_sub _ (sub_c (Or.inl rfl) (sub_c (Or.inl rfl) (sub_c (Or.inl rfl) sub_n))) h
  · replace h := h.2 hc
    refine g_iload_n (i := 1) dX11_asNow_53 rfl rfl ?_
    refine g_goto (tgt := 58) dX11_asNow_54 rfl ?_
    exact g_sub _ (sub_c (Or.inl rfl) (sub_c (Or.inl rfl) (sub_c (Or.inl rfl) sub_n))) h
theorem bX11_asNow_58 {κ : gK} {M : MM} {Q : Int32 → MM → Prop} (s0 : Int32)
    (h : Q s0 M) :
    G κ mX11_asNow 58 [.null, .null, .null] [.int s0] M Q := by
  exact g_iret dX11_asNow_58 rfl h
theorem eX11_asNow {κ : gK} {M : MM} {Q : Int32 → MM → Prop} 
    (h : G κ mX11_asNow 0 [.ref 119, .null, .null] [] M Q) : Cl κ mX11_asNow [.ref 119] M Q := g_entry 2 pl_X11_asNow (Nat.le_of_ble_eq_true rfl) (L := [.ref 119, .null, .null]) rfl (g_sub _ (sub_c (Or.inr rfl) (sub_c (Or.inr rfl) (sub_c (Or.inr rfl) sub_n))) h)
theorem dX11_crowsTogether_0 : decode cX11_crowsTogether 0 = .ok (.iconst 1, 1) := by decide +kernel
theorem dX11_crowsTogether_1 : decode cX11_crowsTogether 1 = .ok (.istore 4, 2) := by decide +kernel
theorem dX11_crowsTogether_3 : decode cX11_crowsTogether 3 = .ok (.iconst 1, 1) := by decide +kernel
theorem dX11_crowsTogether_4 : decode cX11_crowsTogether 4 = .ok (.istore 5, 2) := by decide +kernel
theorem dX11_crowsTogether_6 : decode cX11_crowsTogether 6 = .ok (.iload 5, 2) := by decide +kernel
theorem dX11_crowsTogether_8 : decode cX11_crowsTogether 8 = .ok (.iload_n 3, 1) := by decide +kernel
theorem dX11_crowsTogether_9 : decode cX11_crowsTogether 9 = .ok (.if_icmp .ge 16, 3) := by decide +kernel
theorem dX11_crowsTogether_12 : decode cX11_crowsTogether 12 = .ok (.iload 4, 2) := by decide +kernel
theorem dX11_crowsTogether_14 : decode cX11_crowsTogether 14 = .ok (.bipush 9, 2) := by decide +kernel
theorem dX11_crowsTogether_16 : decode cX11_crowsTogether 16 = .ok (.imul, 1) := by decide +kernel
theorem dX11_crowsTogether_17 : decode cX11_crowsTogether 17 = .ok (.istore 4, 2) := by decide +kernel
theorem dX11_crowsTogether_19 : decode cX11_crowsTogether 19 = .ok (.iinc 5 1, 3) := by decide +kernel
theorem dX11_crowsTogether_22 : decode cX11_crowsTogether 22 = .ok (.goto (-16), 3) := by decide +kernel
theorem dX11_crowsTogether_25 : decode cX11_crowsTogether 25 = .ok (.iconst 0, 1) := by decide +kernel
theorem dX11_crowsTogether_26 : decode cX11_crowsTogether 26 = .ok (.istore 5, 2) := by decide +kernel
theorem dX11_crowsTogether_28 : decode cX11_crowsTogether 28 = .ok (.iload 5, 2) := by decide +kernel
theorem dX11_crowsTogether_30 : decode cX11_crowsTogether 30 = .ok (.iload_n 3, 1) := by decide +kernel
theorem dX11_crowsTogether_31 : decode cX11_crowsTogether 31 = .ok (.if_icmp .ge 29, 3) := by decide +kernel
theorem dX11_crowsTogether_34 : decode cX11_crowsTogether 34 = .ok (.aload_n 0, 1) := by decide +kernel
theorem dX11_crowsTogether_35 : decode cX11_crowsTogether 35 = .ok (.iconst 1, 1) := by decide +kernel
theorem dX11_crowsTogether_36 : decode cX11_crowsTogether 36 = .ok (.iload_n 2, 1) := by decide +kernel
theorem dX11_crowsTogether_37 : decode cX11_crowsTogether 37 = .ok (.iload 4, 2) := by decide +kernel
theorem dX11_crowsTogether_39 : decode cX11_crowsTogether 39 = .ok (.idiv, 1) := by decide +kernel
theorem dX11_crowsTogether_40 : decode cX11_crowsTogether 40 = .ok (.bipush 9, 2) := by decide +kernel
theorem dX11_crowsTogether_42 : decode cX11_crowsTogether 42 = .ok (.irem, 1) := by decide +kernel
theorem dX11_crowsTogether_43 : decode cX11_crowsTogether 43 = .ok (.iadd, 1) := by decide +kernel
theorem dX11_crowsTogether_44 : decode cX11_crowsTogether 44 = .ok (.invokevirtual 92, 3) := by decide +kernel
theorem dX11_crowsTogether_47 : decode cX11_crowsTogether 47 = .ok (.iload 4, 2) := by decide +kernel
theorem dX11_crowsTogether_49 : decode cX11_crowsTogether 49 = .ok (.bipush 9, 2) := by decide +kernel
theorem dX11_crowsTogether_51 : decode cX11_crowsTogether 51 = .ok (.idiv, 1) := by decide +kernel
theorem dX11_crowsTogether_52 : decode cX11_crowsTogether 52 = .ok (.istore 4, 2) := by decide +kernel
theorem dX11_crowsTogether_54 : decode cX11_crowsTogether 54 = .ok (.iinc 5 1, 3) := by decide +kernel
theorem dX11_crowsTogether_57 : decode cX11_crowsTogether 57 = .ok (.goto (-29), 3) := by decide +kernel
theorem dX11_crowsTogether_60 : decode cX11_crowsTogether 60 = .ok (.aload_n 0, 1) := by decide +kernel
theorem dX11_crowsTogether_61 : decode cX11_crowsTogether 61 = .ok (.iload_n 1, 1) := by decide +kernel
theorem dX11_crowsTogether_62 : decode cX11_crowsTogether 62 = .ok (.invokevirtual 244, 3) := by decide +kernel
theorem dX11_crowsTogether_65 : decode cX11_crowsTogether 65 = .ok (.ifCond .eq 7, 3) := by decide +kernel
theorem dX11_crowsTogether_68 : decode cX11_crowsTogether 68 = .ok (.iconst 1, 1) := by decide +kernel
theorem dX11_crowsTogether_69 : decode cX11_crowsTogether 69 = .ok (.goto 4, 3) := by decide +kernel
theorem dX11_crowsTogether_72 : decode cX11_crowsTogether 72 = .ok (.iconst 0, 1) := by decide +kernel
theorem dX11_crowsTogether_73 : decode cX11_crowsTogether 73 = .ok (.istore 5, 2) := by decide +kernel
theorem dX11_crowsTogether_75 : decode cX11_crowsTogether 75 = .ok (.aload_n 0, 1) := by decide +kernel
theorem dX11_crowsTogether_76 : decode cX11_crowsTogether 76 = .ok (.invokevirtual 238, 3) := by decide +kernel
theorem dX11_crowsTogether_79 : decode cX11_crowsTogether 79 = .ok (.iload 5, 2) := by decide +kernel
theorem dX11_crowsTogether_81 : decode cX11_crowsTogether 81 = .ok (.ireturn, 1) := by decide +kernel
theorem bX11_crowsTogether_0 {κ : gK} {M : MM} {Q : Int32 → MM → Prop} (l1 : Int32) (l2 : Int32) (l3 : Int32)
    (h : G κ mX11_crowsTogether 6 [.ref 119, .int l1, .int l2, .int l3, .int (1 : Int32), .int (1 : Int32)] [] M Q) :
    G κ mX11_crowsTogether 0 [.ref 119, .int l1, .int l2, .int l3, .null, .null] [] M Q := by
  refine g_iconst (v := (1 : Int32)) dX11_crowsTogether_0 (by decide) ?_
  refine g_istore (i := 4) (L' := [.ref 119, .int l1, .int l2, .int l3, .int (1 : Int32), .null]) dX11_crowsTogether_1 (Nat.le_of_ble_eq_true rfl) rfl rfl ?_
  refine g_iconst (v := (1 : Int32)) dX11_crowsTogether_3 (by decide) ?_
  refine g_istore (i := 5) (L' := [.ref 119, .int l1, .int l2, .int l3, .int (1 : Int32), .int (1 : Int32)]) dX11_crowsTogether_4 (Nat.le_of_ble_eq_true rfl) rfl rfl ?_
  exact h
theorem bX11_crowsTogether_6 {κ : gK} {M : MM} {Q : Int32 → MM → Prop} (l1 : Int32) (l2 : Int32) (l3 : Int32) (l4 : Int32) (l5 : Int32)
    (h : ((l3 ≤ l5 → G κ mX11_crowsTogether 28 [.ref 119, .int l1, .int l2, .int l3, .int l4, .int (0 : Int32)] [] M Q) ∧ (¬ l3 ≤ l5 → G κ mX11_crowsTogether 6 [.ref 119, .int l1, .int l2, .int l3, .int (l4 * (9 : Int32)), .int (l5 + 1)] [] M Q))) :
    G κ mX11_crowsTogether 6 [.ref 119, .int l1, .int l2, .int l3, .int l4, .int l5] [] M Q := by
  refine g_iload (i := 5) dX11_crowsTogether_6 rfl ?_
  refine g_iload_n (i := 3) dX11_crowsTogether_8 rfl rfl ?_
  refine g_icmp_ge (tgt := 25) dX11_crowsTogether_9 rfl ⟨fun hc => ?_, fun hc => ?_⟩
  · replace h := h.1 hc
    refine g_iconst (v := (0 : Int32)) dX11_crowsTogether_25 (by decide) ?_
    refine g_istore (i := 5) (L' := [.ref 119, .int l1, .int l2, .int l3, .int l4, .int (0 : Int32)]) dX11_crowsTogether_26 (Nat.le_of_ble_eq_true rfl) rfl rfl ?_
    exact h
  · replace h := h.2 hc
    refine g_iload (i := 4) dX11_crowsTogether_12 rfl ?_
    refine g_bipush (v := (9 : Int32)) dX11_crowsTogether_14 (by decide) ?_
    refine g_imul dX11_crowsTogether_16 ?_
    refine g_istore (i := 4) (L' := [.ref 119, .int l1, .int l2, .int l3, .int (l4 * (9 : Int32)), .int l5]) dX11_crowsTogether_17 (Nat.le_of_ble_eq_true rfl) rfl rfl ?_
    refine g_iinc (v := (l5 + 1)) (L' := [.ref 119, .int l1, .int l2, .int l3, .int (l4 * (9 : Int32)), .int (l5 + 1)]) dX11_crowsTogether_19 rfl rfl (Nat.le_of_ble_eq_true rfl) rfl rfl ?_
    refine g_goto (tgt := 6) dX11_crowsTogether_22 rfl ?_
    exact h
theorem bX11_crowsTogether_28 {κ : gK} {M : MM} {Q : Int32 → MM → Prop} (l1 : Int32) (l2 : Int32) (l3 : Int32) (l4 : Int32) (l5 : Int32)
    (h : ((l3 ≤ l5 → Cl κ mX11_common [.ref 119, .int l1] M (fun r1 M1 => ((r1 = 0 → G κ mX11_crowsTogether 73 [.ref 119, .null, .null, .null, .null, .null] [.int (0 : Int32)] M1 Q) ∧ (¬ r1 = 0 → G κ mX11_crowsTogether 73 [.ref 119, .null, .null, .null, .null, .null] [.int (1 : Int32)] M1 Q)))) ∧ (¬ l3 ≤ l5 → (¬ l4 = 0) ∧ (Cl κ mX11_sounds [.ref 119, .int ((1 : Int32) + (irm (l2 / l4) (9 : Int32)))] M (fun _ M2 => G κ mX11_crowsTogether 28 [.ref 119, .int l1, .int l2, .int l3, .int (l4 / (9 : Int32)), .int (l5 + 1)] [] M2 Q))))) :
    G κ mX11_crowsTogether 28 [.ref 119, .int l1, .int l2, .int l3, .int l4, .int l5] [] M Q := by
  refine g_iload (i := 5) dX11_crowsTogether_28 rfl ?_
  refine g_iload_n (i := 3) dX11_crowsTogether_30 rfl rfl ?_
  refine g_icmp_ge (tgt := 60) dX11_crowsTogether_31 rfl ⟨fun hc => ?_, fun hc => ?_⟩
  · replace h := h.1 hc
    refine g_aload_n (i := 0) dX11_crowsTogether_60 rfl rfl ?_
    refine g_iload_n (i := 1) dX11_crowsTogether_61 rfl rfl ?_
    refine gc_RX11_244 rfl (Nat.le_of_ble_eq_true rfl) dX11_crowsTogether_62 sh_119 (Nat.le_of_ble_eq_true rfl) ?_
    refine Cl.mono h (fun r1 M1 h => ?_)
    refine g_if_eq (tgt := 72) dX11_crowsTogether_65 rfl ⟨fun hc => ?_, fun hc => ?_⟩
    · replace h := h.1 hc
      refine g_iconst (v := (0 : Int32)) dX11_crowsTogether_72 (by decide) ?_
      exact g_sub _ (sub_c (Or.inr rfl) (sub_c (Or.inl rfl) (sub_c (Or.inl rfl) (sub_c (Or.inl rfl) (sub_c (Or.inl rfl) (sub_c (Or.inl rfl) sub_n)))))) h
    · replace h := h.2 hc
      refine g_iconst (v := (1 : Int32)) dX11_crowsTogether_68 (by decide) ?_
      refine g_goto (tgt := 73) dX11_crowsTogether_69 rfl ?_
      exact g_sub _ (sub_c (Or.inr rfl) (sub_c (Or.inl rfl) (sub_c (Or.inl rfl) (sub_c (Or.inl rfl) (sub_c (Or.inl rfl) (sub_c (Or.inl rfl) sub_n)))))) h
  · replace h := h.2 hc
    refine g_aload_n (i := 0) dX11_crowsTogether_34 rfl rfl ?_
    refine g_iconst (v := (1 : Int32)) dX11_crowsTogether_35 (by decide) ?_
    refine g_iload_n (i := 2) dX11_crowsTogether_36 rfl rfl ?_
    refine g_iload (i := 4) dX11_crowsTogether_37 rfl ?_
    have hv1 := h.1; replace h := h.2
    refine g_idiv dX11_crowsTogether_39 hv1 ?_
    refine g_bipush (v := (9 : Int32)) dX11_crowsTogether_40 (by decide) ?_
    refine g_irem dX11_crowsTogether_42 (by decide) ?_
    refine g_iadd dX11_crowsTogether_43 ?_
    refine gc_RX11_92 rfl (Nat.le_of_ble_eq_true rfl) dX11_crowsTogether_44 sh_119 (Nat.le_of_ble_eq_true rfl) ?_
    refine Cl.mono h (fun r2 M2 h => ?_)
    refine g_iload (i := 4) dX11_crowsTogether_47 rfl ?_
    refine g_bipush (v := (9 : Int32)) dX11_crowsTogether_49 (by decide) ?_
    refine g_idiv dX11_crowsTogether_51 (by decide) ?_
    refine g_istore (i := 4) (L' := [.ref 119, .int l1, .int l2, .int l3, .int (l4 / (9 : Int32)), .int l5]) dX11_crowsTogether_52 (Nat.le_of_ble_eq_true rfl) rfl rfl ?_
    refine g_iinc (v := (l5 + 1)) (L' := [.ref 119, .int l1, .int l2, .int l3, .int (l4 / (9 : Int32)), .int (l5 + 1)]) dX11_crowsTogether_54 rfl rfl (Nat.le_of_ble_eq_true rfl) rfl rfl ?_
    refine g_goto (tgt := 28) dX11_crowsTogether_57 rfl ?_
    exact h
theorem bX11_crowsTogether_73 {κ : gK} {M : MM} {Q : Int32 → MM → Prop} (s0 : Int32)
    (h : Cl κ mX11_backs [.ref 119] M (fun _ M1 => (isB s0 ∧ Q s0 M1))) :
    G κ mX11_crowsTogether 73 [.ref 119, .null, .null, .null, .null, .null] [.int s0] M Q := by
  refine g_istore (i := 5) (L' := [.ref 119, .null, .null, .null, .null, .int s0]) dX11_crowsTogether_73 (Nat.le_of_ble_eq_true rfl) rfl rfl ?_
  refine g_aload_n (i := 0) dX11_crowsTogether_75 rfl rfl ?_
  refine gc_RX11_238 rfl (Nat.le_of_ble_eq_true rfl) dX11_crowsTogether_76 sh_119 (Nat.le_of_ble_eq_true rfl) ?_
  refine Cl.mono h (fun r1 M1 h => ?_)
  refine g_iload (i := 5) dX11_crowsTogether_79 rfl ?_
  exact g_zret dX11_crowsTogether_81 rfl (isB_n h.1) h.2
theorem eX11_crowsTogether {κ : gK} {M : MM} {Q : Int32 → MM → Prop} (l1 : Int32) (l2 : Int32) (l3 : Int32)
    (h : G κ mX11_crowsTogether 0 [.ref 119, .int l1, .int l2, .int l3, .null, .null] [] M Q) : Cl κ mX11_crowsTogether [.ref 119, .int l1, .int l2, .int l3] M Q := g_entry 2 pl_X11_crowsTogether (Nat.le_of_ble_eq_true rfl) (L := [.ref 119, .int l1, .int l2, .int l3, .null, .null]) rfl (g_sub _ (sub_c (Or.inr rfl) (sub_c (Or.inr rfl) (sub_c (Or.inr rfl) (sub_c (Or.inr rfl) (sub_c (Or.inr rfl) (sub_c (Or.inr rfl) sub_n)))))) h)
theorem dX11_figures_0 : decode cX11_figures 0 = .ok (.iload_n 0, 1) := by decide +kernel
theorem dX11_figures_1 : decode cX11_figures 1 = .ok (.istore_n 2, 1) := by decide +kernel
theorem dX11_figures_2 : decode cX11_figures 2 = .ok (.iconst 1, 1) := by decide +kernel
theorem dX11_figures_3 : decode cX11_figures 3 = .ok (.istore_n 3, 1) := by decide +kernel
theorem dX11_figures_4 : decode cX11_figures 4 = .ok (.iconst 0, 1) := by decide +kernel
theorem dX11_figures_5 : decode cX11_figures 5 = .ok (.istore 4, 2) := by decide +kernel
theorem dX11_figures_7 : decode cX11_figures 7 = .ok (.iconst 0, 1) := by decide +kernel
theorem dX11_figures_8 : decode cX11_figures 8 = .ok (.istore 5, 2) := by decide +kernel
theorem dX11_figures_10 : decode cX11_figures 10 = .ok (.iload 5, 2) := by decide +kernel
theorem dX11_figures_12 : decode cX11_figures 12 = .ok (.iload_n 1, 1) := by decide +kernel
theorem dX11_figures_13 : decode cX11_figures 13 = .ok (.if_icmp .ge 32, 3) := by decide +kernel
theorem dX11_figures_16 : decode cX11_figures 16 = .ok (.iload 4, 2) := by decide +kernel
theorem dX11_figures_18 : decode cX11_figures 18 = .ok (.iload_n 3, 1) := by decide +kernel
theorem dX11_figures_19 : decode cX11_figures 19 = .ok (.iconst 1, 1) := by decide +kernel
theorem dX11_figures_20 : decode cX11_figures 20 = .ok (.iload_n 2, 1) := by decide +kernel
theorem dX11_figures_21 : decode cX11_figures 21 = .ok (.bipush 9, 2) := by decide +kernel
theorem dX11_figures_23 : decode cX11_figures 23 = .ok (.irem, 1) := by decide +kernel
theorem dX11_figures_24 : decode cX11_figures 24 = .ok (.iadd, 1) := by decide +kernel
theorem dX11_figures_25 : decode cX11_figures 25 = .ok (.imul, 1) := by decide +kernel
theorem dX11_figures_26 : decode cX11_figures 26 = .ok (.iadd, 1) := by decide +kernel
theorem dX11_figures_27 : decode cX11_figures 27 = .ok (.istore 4, 2) := by decide +kernel
theorem dX11_figures_29 : decode cX11_figures 29 = .ok (.iload_n 3, 1) := by decide +kernel
theorem dX11_figures_30 : decode cX11_figures 30 = .ok (.bipush 10, 2) := by decide +kernel
theorem dX11_figures_32 : decode cX11_figures 32 = .ok (.imul, 1) := by decide +kernel
theorem dX11_figures_33 : decode cX11_figures 33 = .ok (.istore_n 3, 1) := by decide +kernel
theorem dX11_figures_34 : decode cX11_figures 34 = .ok (.iload_n 2, 1) := by decide +kernel
theorem dX11_figures_35 : decode cX11_figures 35 = .ok (.bipush 9, 2) := by decide +kernel
theorem dX11_figures_37 : decode cX11_figures 37 = .ok (.idiv, 1) := by decide +kernel
theorem dX11_figures_38 : decode cX11_figures 38 = .ok (.istore_n 2, 1) := by decide +kernel
theorem dX11_figures_39 : decode cX11_figures 39 = .ok (.iinc 5 1, 3) := by decide +kernel
theorem dX11_figures_42 : decode cX11_figures 42 = .ok (.goto (-32), 3) := by decide +kernel
theorem dX11_figures_45 : decode cX11_figures 45 = .ok (.iload 4, 2) := by decide +kernel
theorem dX11_figures_47 : decode cX11_figures 47 = .ok (.ireturn, 1) := by decide +kernel
theorem bX11_figures_0 {κ : gK} {M : MM} {Q : Int32 → MM → Prop} (l0 : Int32) (l1 : Int32)
    (h : G κ mX11_figures 10 [.null, .int l1, .int l0, .int (1 : Int32), .int (0 : Int32), .int (0 : Int32)] [] M Q) :
    G κ mX11_figures 0 [.int l0, .int l1, .null, .null, .null, .null] [] M Q := by
  refine g_iload_n (i := 0) dX11_figures_0 rfl rfl ?_
  refine g_istore_n (i := 2) (L' := [.int l0, .int l1, .int l0, .null, .null, .null]) dX11_figures_1 rfl (Nat.le_of_ble_eq_true rfl) rfl rfl ?_
  refine g_iconst (v := (1 : Int32)) dX11_figures_2 (by decide) ?_
  refine g_istore_n (i := 3) (L' := [.int l0, .int l1, .int l0, .int (1 : Int32), .null, .null]) dX11_figures_3 rfl (Nat.le_of_ble_eq_true rfl) rfl rfl ?_
  refine g_iconst (v := (0 : Int32)) dX11_figures_4 (by decide) ?_
  refine g_istore (i := 4) (L' := [.int l0, .int l1, .int l0, .int (1 : Int32), .int (0 : Int32), .null]) dX11_figures_5 (Nat.le_of_ble_eq_true rfl) rfl rfl ?_
  refine g_iconst (v := (0 : Int32)) dX11_figures_7 (by decide) ?_
  refine g_istore (i := 5) (L' := [.int l0, .int l1, .int l0, .int (1 : Int32), .int (0 : Int32), .int (0 : Int32)]) dX11_figures_8 (Nat.le_of_ble_eq_true rfl) rfl rfl ?_
  exact g_sub _ (sub_c (Or.inl rfl) (sub_c (Or.inr rfl) (sub_c (Or.inr rfl) (sub_c (Or.inr rfl) (sub_c (Or.inr rfl) (sub_c (Or.inr rfl) sub_n)))))) h
theorem bX11_figures_10 {κ : gK} {M : MM} {Q : Int32 → MM → Prop} (l1 : Int32) (l2 : Int32) (l3 : Int32) (l4 : Int32) (l5 : Int32)
    (h : ((l1 ≤ l5 → Q l4 M) ∧ (¬ l1 ≤ l5 → ∀ v1 : Int32, v1 = (l4 + (l3 * ((1 : Int32) + (irm l2 (9 : Int32))))) → (G κ mX11_figures 10 [.null, .int l1, .int (l2 / (9 : Int32)), .int (l3 * (10 : Int32)), .int v1, .int (l5 + 1)] [] M Q)))) :
    G κ mX11_figures 10 [.null, .int l1, .int l2, .int l3, .int l4, .int l5] [] M Q := by
  refine g_iload (i := 5) dX11_figures_10 rfl ?_
  refine g_iload_n (i := 1) dX11_figures_12 rfl rfl ?_
  refine g_icmp_ge (tgt := 45) dX11_figures_13 rfl ⟨fun hc => ?_, fun hc => ?_⟩
  · replace h := h.1 hc
    refine g_iload (i := 4) dX11_figures_45 rfl ?_
    exact g_iret dX11_figures_47 rfl h
  · replace h := h.2 hc
    refine g_iload (i := 4) dX11_figures_16 rfl ?_
    refine g_iload_n (i := 3) dX11_figures_18 rfl rfl ?_
    refine g_iconst (v := (1 : Int32)) dX11_figures_19 (by decide) ?_
    refine g_iload_n (i := 2) dX11_figures_20 rfl rfl ?_
    refine g_bipush (v := (9 : Int32)) dX11_figures_21 (by decide) ?_
    refine g_irem dX11_figures_23 (by decide) ?_
    refine g_iadd dX11_figures_24 ?_
    refine g_imul dX11_figures_25 ?_
    refine g_iadd dX11_figures_26 ?_
    refine lv_nm (fun v1 hn1 => ?_) (x := (l4 + (l3 * ((1 : Int32) + (irm l2 (9 : Int32))))))
    replace h := h v1 hn1
    refine g_istore (i := 4) (L' := [.null, .int l1, .int l2, .int l3, .int v1, .int l5]) dX11_figures_27 (Nat.le_of_ble_eq_true rfl) rfl rfl ?_
    refine g_iload_n (i := 3) dX11_figures_29 rfl rfl ?_
    refine g_bipush (v := (10 : Int32)) dX11_figures_30 (by decide) ?_
    refine g_imul dX11_figures_32 ?_
    refine g_istore_n (i := 3) (L' := [.null, .int l1, .int l2, .int (l3 * (10 : Int32)), .int v1, .int l5]) dX11_figures_33 rfl (Nat.le_of_ble_eq_true rfl) rfl rfl ?_
    refine g_iload_n (i := 2) dX11_figures_34 rfl rfl ?_
    refine g_bipush (v := (9 : Int32)) dX11_figures_35 (by decide) ?_
    refine g_idiv dX11_figures_37 (by decide) ?_
    refine g_istore_n (i := 2) (L' := [.null, .int l1, .int (l2 / (9 : Int32)), .int (l3 * (10 : Int32)), .int v1, .int l5]) dX11_figures_38 rfl (Nat.le_of_ble_eq_true rfl) rfl rfl ?_
    refine g_iinc (v := (l5 + 1)) (L' := [.null, .int l1, .int (l2 / (9 : Int32)), .int (l3 * (10 : Int32)), .int v1, .int (l5 + 1)]) dX11_figures_39 rfl rfl (Nat.le_of_ble_eq_true rfl) rfl rfl ?_
    refine g_goto (tgt := 10) dX11_figures_42 rfl ?_
    exact h
theorem eX11_figures {κ : gK} {M : MM} {Q : Int32 → MM → Prop} (l0 : Int32) (l1 : Int32)
    (h : G κ mX11_figures 0 [.int l0, .int l1, .null, .null, .null, .null] [] M Q) : Cl κ mX11_figures [.int l0, .int l1] M Q := g_entry 4 pl_X11_figures (Nat.le_of_ble_eq_true rfl) (L := [.int l0, .int l1, .null, .null, .null, .null]) rfl (g_sub _ (sub_c (Or.inr rfl) (sub_c (Or.inr rfl) (sub_c (Or.inr rfl) (sub_c (Or.inr rfl) (sub_c (Or.inr rfl) (sub_c (Or.inr rfl) sub_n)))))) h)
theorem dX11_crows_0 : decode cX11_crows 0 = .ok (.aload_n 0, 1) := by decide +kernel
theorem dX11_crows_1 : decode cX11_crows 1 = .ok (.iload_n 1, 1) := by decide +kernel
theorem dX11_crows_2 : decode cX11_crows 2 = .ok (.invokevirtual 241, 3) := by decide +kernel
theorem dX11_crows_5 : decode cX11_crows 5 = .ok (.ifCond .ne 6, 3) := by decide +kernel
theorem dX11_crows_8 : decode cX11_crows 8 = .ok (.ldc 199, 2) := by decide +kernel
theorem dX11_crows_10 : decode cX11_crows 10 = .ok (.ireturn, 1) := by decide +kernel
theorem dX11_crows_11 : decode cX11_crows 11 = .ok (.iload_n 2, 1) := by decide +kernel
theorem dX11_crows_12 : decode cX11_crows 12 = .ok (.i2l, 1) := by decide +kernel
theorem dX11_crows_13 : decode cX11_crows 13 = .ok (.lconst 0, 1) := by decide +kernel
theorem dX11_crows_14 : decode cX11_crows 14 = .ok (.lconst 1, 1) := by decide +kernel
theorem dX11_crows_15 : decode cX11_crows 15 = .ok (.invokestatic 63, 3) := by decide +kernel
theorem dX11_crows_18 : decode cX11_crows 18 = .ok (.ifCond .ne 6, 3) := by decide +kernel
theorem dX11_crows_21 : decode cX11_crows 21 = .ok (.ldc 112, 2) := by decide +kernel
theorem dX11_crows_23 : decode cX11_crows 23 = .ok (.ireturn, 1) := by decide +kernel
theorem dX11_crows_24 : decode cX11_crows 24 = .ok (.aload_n 0, 1) := by decide +kernel
theorem dX11_crows_25 : decode cX11_crows 25 = .ok (.invokevirtual 179, 3) := by decide +kernel
theorem dX11_crows_28 : decode cX11_crows 28 = .ok (.ifCond .ne 6, 3) := by decide +kernel
theorem dX11_crows_31 : decode cX11_crows 31 = .ok (.ldc 208, 2) := by decide +kernel
theorem dX11_crows_33 : decode cX11_crows 33 = .ok (.ireturn, 1) := by decide +kernel
theorem dX11_crows_34 : decode cX11_crows 34 = .ok (.aload_n 0, 1) := by decide +kernel
theorem dX11_crows_35 : decode cX11_crows 35 = .ok (.invokevirtual 235, 3) := by decide +kernel
theorem dX11_crows_38 : decode cX11_crows 38 = .ok (.iconst 1, 1) := by decide +kernel
theorem dX11_crows_39 : decode cX11_crows 39 = .ok (.istore_n 3, 1) := by decide +kernel
theorem dX11_crows_40 : decode cX11_crows 40 = .ok (.iconst 0, 1) := by decide +kernel
theorem dX11_crows_41 : decode cX11_crows 41 = .ok (.istore 4, 2) := by decide +kernel
theorem dX11_crows_43 : decode cX11_crows 43 = .ok (.iload 4, 2) := by decide +kernel
theorem dX11_crows_45 : decode cX11_crows 45 = .ok (.bipush 6, 2) := by decide +kernel
theorem dX11_crows_47 : decode cX11_crows 47 = .ok (.if_icmp .ge 58, 3) := by decide +kernel
theorem dX11_crows_50 : decode cX11_crows 50 = .ok (.iconst 0, 1) := by decide +kernel
theorem dX11_crows_51 : decode cX11_crows 51 = .ok (.istore 5, 2) := by decide +kernel
theorem dX11_crows_53 : decode cX11_crows 53 = .ok (.iload 5, 2) := by decide +kernel
theorem dX11_crows_55 : decode cX11_crows 55 = .ok (.iload_n 3, 1) := by decide +kernel
theorem dX11_crows_56 : decode cX11_crows 56 = .ok (.if_icmp .ge 38, 3) := by decide +kernel
theorem dX11_crows_59 : decode cX11_crows 59 = .ok (.aload_n 0, 1) := by decide +kernel
theorem dX11_crows_60 : decode cX11_crows 60 = .ok (.iload_n 1, 1) := by decide +kernel
theorem dX11_crows_61 : decode cX11_crows 61 = .ok (.iload 5, 2) := by decide +kernel
theorem dX11_crows_63 : decode cX11_crows 63 = .ok (.iload 4, 2) := by decide +kernel
theorem dX11_crows_65 : decode cX11_crows 65 = .ok (.invokevirtual 250, 3) := by decide +kernel
theorem dX11_crows_68 : decode cX11_crows 68 = .ok (.ifCond .eq 20, 3) := by decide +kernel
theorem dX11_crows_71 : decode cX11_crows 71 = .ok (.iload_n 2, 1) := by decide +kernel
theorem dX11_crows_72 : decode cX11_crows 72 = .ok (.ifCond .ne 8, 3) := by decide +kernel
theorem dX11_crows_75 : decode cX11_crows 75 = .ok (.iload 4, 2) := by decide +kernel
theorem dX11_crows_77 : decode cX11_crows 77 = .ok (.goto 10, 3) := by decide +kernel
theorem dX11_crows_80 : decode cX11_crows 80 = .ok (.iload 5, 2) := by decide +kernel
theorem dX11_crows_82 : decode cX11_crows 82 = .ok (.iload 4, 2) := by decide +kernel
theorem dX11_crows_84 : decode cX11_crows 84 = .ok (.invokestatic 254, 3) := by decide +kernel
theorem dX11_crows_87 : decode cX11_crows 87 = .ok (.ireturn, 1) := by decide +kernel
theorem dX11_crows_88 : decode cX11_crows 88 = .ok (.iinc 5 1, 3) := by decide +kernel
theorem dX11_crows_91 : decode cX11_crows 91 = .ok (.goto (-38), 3) := by decide +kernel
theorem dX11_crows_94 : decode cX11_crows 94 = .ok (.iload_n 3, 1) := by decide +kernel
theorem dX11_crows_95 : decode cX11_crows 95 = .ok (.bipush 9, 2) := by decide +kernel
theorem dX11_crows_97 : decode cX11_crows 97 = .ok (.imul, 1) := by decide +kernel
theorem dX11_crows_98 : decode cX11_crows 98 = .ok (.istore_n 3, 1) := by decide +kernel
theorem dX11_crows_99 : decode cX11_crows 99 = .ok (.iinc 4 1, 3) := by decide +kernel
theorem dX11_crows_102 : decode cX11_crows 102 = .ok (.goto (-59), 3) := by decide +kernel
theorem dX11_crows_105 : decode cX11_crows 105 = .ok (.iconst (-1), 1) := by decide +kernel
theorem dX11_crows_106 : decode cX11_crows 106 = .ok (.ireturn, 1) := by decide +kernel
theorem bX11_crows_0 {κ : gK} {M : MM} {Q : Int32 → MM → Prop} (l1 : Int32) (l2 : Int32)
    (h : Cl κ mX11_areThere [.ref 119, .int l1] M (fun r1 M1 => ((r1 = 0 → Q (-1000000001 : Int32) M1) ∧ (¬ r1 = 0 → Cl κ mX11_in [.long (l2).toInt64, .long (0 : Int64), .long (1 : Int64)] M1 (fun r2 M2 => ((r2 = 0 → Q (-1000000002 : Int32) M2) ∧ (¬ r2 = 0 → Cl κ mX11_isTown [.ref 119] M2 (fun r3 M3 => ((r3 = 0 → Q (-1000000003 : Int32) M3) ∧ (¬ r3 = 0 → Cl κ mX11_asides [.ref 119] M3 (fun _ M4 => G κ mX11_crows 43 [.ref 119, .int l1, .int l2, .int (1 : Int32), .int (0 : Int32), .null] [] M4 Q))))))))))) :
    G κ mX11_crows 0 [.ref 119, .int l1, .int l2, .null, .null, .null] [] M Q := by
  refine g_aload_n (i := 0) dX11_crows_0 rfl rfl ?_
  refine g_iload_n (i := 1) dX11_crows_1 rfl rfl ?_
  refine gc_RX11_241 rfl (Nat.le_of_ble_eq_true rfl) dX11_crows_2 sh_119 (Nat.le_of_ble_eq_true rfl) ?_
  refine Cl.mono h (fun r1 M1 h => ?_)
  refine g_if_ne (tgt := 11) dX11_crows_5 rfl ⟨fun hc => ?_, fun hc => ?_⟩
  · replace h := h.1 hc
    refine g_ldc dX11_crows_8 wt_984 ?_
    exact g_iret dX11_crows_10 rfl h
  · replace h := h.2 hc
    refine g_iload_n (i := 2) dX11_crows_11 rfl rfl ?_
    refine g_i2l dX11_crows_12 ?_
    refine g_lconst (v := (0 : Int64)) dX11_crows_13 (by decide) ?_
    refine g_lconst (v := (1 : Int64)) dX11_crows_14 (by decide) ?_
    refine gc_RX11_63 rfl (Nat.le_of_ble_eq_true rfl) dX11_crows_15 (Nat.le_of_ble_eq_true rfl) ?_
    refine Cl.mono h (fun r2 M2 h => ?_)
    refine g_if_ne (tgt := 24) dX11_crows_18 rfl ⟨fun hc => ?_, fun hc => ?_⟩
    · replace h := h.1 hc
      refine g_ldc dX11_crows_21 wt_873 ?_
      exact g_iret dX11_crows_23 rfl h
    · replace h := h.2 hc
      refine g_aload_n (i := 0) dX11_crows_24 rfl rfl ?_
      refine gc_RX11_179 rfl (Nat.le_of_ble_eq_true rfl) dX11_crows_25 sh_119 (Nat.le_of_ble_eq_true rfl) ?_
      refine Cl.mono h (fun r3 M3 h => ?_)
      refine g_if_ne (tgt := 34) dX11_crows_28 rfl ⟨fun hc => ?_, fun hc => ?_⟩
      · replace h := h.1 hc
        refine g_ldc dX11_crows_31 wt_1002 ?_
        exact g_iret dX11_crows_33 rfl h
      · replace h := h.2 hc
        refine g_aload_n (i := 0) dX11_crows_34 rfl rfl ?_
        refine gc_RX11_235 rfl (Nat.le_of_ble_eq_true rfl) dX11_crows_35 sh_119 (Nat.le_of_ble_eq_true rfl) ?_
        refine Cl.mono h (fun r4 M4 h => ?_)
        refine g_iconst (v := (1 : Int32)) dX11_crows_38 (by decide) ?_
        refine g_istore_n (i := 3) (L' := [.ref 119, .int l1, .int l2, .int (1 : Int32), .null, .null]) dX11_crows_39 rfl (Nat.le_of_ble_eq_true rfl) rfl rfl ?_
        refine g_iconst (v := (0 : Int32)) dX11_crows_40 (by decide) ?_
        refine g_istore (i := 4) (L' := [.ref 119, .int l1, .int l2, .int (1 : Int32), .int (0 : Int32), .null]) dX11_crows_41 (Nat.le_of_ble_eq_true rfl) rfl rfl ?_
        exact h
theorem bX11_crows_43 {κ : gK} {M : MM} {Q : Int32 → MM → Prop} (l1 : Int32) (l2 : Int32) (l3 : Int32) (l4 : Int32)
    (h : (((6 : Int32) ≤ l4 → Q (-1 : Int32) M) ∧ (¬ (6 : Int32) ≤ l4 → G κ mX11_crows 53 [.ref 119, .int l1, .int l2, .int l3, .int l4, .int (0 : Int32)] [] M Q))) :
    G κ mX11_crows 43 [.ref 119, .int l1, .int l2, .int l3, .int l4, .null] [] M Q := by
  refine g_iload (i := 4) dX11_crows_43 rfl ?_
  refine g_bipush (v := (6 : Int32)) dX11_crows_45 (by decide) ?_
  refine g_icmp_ge (tgt := 105) dX11_crows_47 rfl ⟨fun hc => ?_, fun hc => ?_⟩
  · replace h := h.1 hc
    refine g_iconst (v := (-1 : Int32)) dX11_crows_105 (by decide) ?_
    exact g_iret dX11_crows_106 rfl h
  · replace h := h.2 hc
    refine g_iconst (v := (0 : Int32)) dX11_crows_50 (by decide) ?_
    refine g_istore (i := 5) (L' := [.ref 119, .int l1, .int l2, .int l3, .int l4, .int (0 : Int32)]) dX11_crows_51 (Nat.le_of_ble_eq_true rfl) rfl rfl ?_
    exact h
theorem bX11_crows_53 {κ : gK} {M : MM} {Q : Int32 → MM → Prop} (l1 : Int32) (l2 : Int32) (l3 : Int32) (l4 : Int32) (l5 : Int32)
    (h : ((l3 ≤ l5 → G κ mX11_crows 43 [.ref 119, .int l1, .int l2, .int (l3 * (9 : Int32)), .int (l4 + 1), .null] [] M Q) ∧ (¬ l3 ≤ l5 → Cl κ mX11_crowsTogether [.ref 119, .int l1, .int l5, .int l4] M (fun r1 M1 => ((r1 = 0 → G κ mX11_crows 53 [.ref 119, .int l1, .int l2, .int l3, .int l4, .int (l5 + 1)] [] M1 Q) ∧ (¬ r1 = 0 → ((l2 = 0 → G κ mX11_crows 87 [.null, .null, .null, .null, .null, .null] [.int l4] M1 Q) ∧ (¬ l2 = 0 → Cl κ mX11_figures [.int l5, .int l4] M1 (fun r2 M2 => G κ mX11_crows 87 [.null, .null, .null, .null, .null, .null] [.int r2] M2 Q))))))))) :
    G κ mX11_crows 53 [.ref 119, .int l1, .int l2, .int l3, .int l4, .int l5] [] M Q := by
  refine g_iload (i := 5) dX11_crows_53 rfl ?_
  refine g_iload_n (i := 3) dX11_crows_55 rfl rfl ?_
  refine g_icmp_ge (tgt := 94) dX11_crows_56 rfl ⟨fun hc => ?_, fun hc => ?_⟩
  · replace h := h.1 hc
    refine g_iload_n (i := 3) dX11_crows_94 rfl rfl ?_
    refine g_bipush (v := (9 : Int32)) dX11_crows_95 (by decide) ?_
    refine g_imul dX11_crows_97 ?_
    refine g_istore_n (i := 3) (L' := [.ref 119, .int l1, .int l2, .int (l3 * (9 : Int32)), .int l4, .int l5]) dX11_crows_98 rfl (Nat.le_of_ble_eq_true rfl) rfl rfl ?_
    refine g_iinc (v := (l4 + 1)) (L' := [.ref 119, .int l1, .int l2, .int (l3 * (9 : Int32)), .int (l4 + 1), .int l5]) dX11_crows_99 rfl rfl (Nat.le_of_ble_eq_true rfl) rfl rfl ?_
    refine g_goto (tgt := 43) dX11_crows_102 rfl ?_
    exact g_sub _ (sub_c (Or.inr rfl) (sub_c (Or.inr rfl) (sub_c (Or.inr rfl) (sub_c (Or.inr rfl) (sub_c (Or.inr rfl) (sub_c (Or.inl rfl) sub_n)))))) h
  · replace h := h.2 hc
    refine g_aload_n (i := 0) dX11_crows_59 rfl rfl ?_
    refine g_iload_n (i := 1) dX11_crows_60 rfl rfl ?_
    refine g_iload (i := 5) dX11_crows_61 rfl ?_
    refine g_iload (i := 4) dX11_crows_63 rfl ?_
    refine gc_RX11_250 rfl (Nat.le_of_ble_eq_true rfl) dX11_crows_65 sh_119 (Nat.le_of_ble_eq_true rfl) ?_
    refine Cl.mono h (fun r1 M1 h => ?_)
    refine g_if_eq (tgt := 88) dX11_crows_68 rfl ⟨fun hc => ?_, fun hc => ?_⟩
    · replace h := h.1 hc
      refine g_iinc (v := (l5 + 1)) (L' := [.ref 119, .int l1, .int l2, .int l3, .int l4, .int (l5 + 1)]) dX11_crows_88 rfl rfl (Nat.le_of_ble_eq_true rfl) rfl rfl ?_
      refine g_goto (tgt := 53) dX11_crows_91 rfl ?_
      exact h
    · replace h := h.2 hc
      refine g_iload_n (i := 2) dX11_crows_71 rfl rfl ?_
      refine g_if_ne (tgt := 80) dX11_crows_72 rfl ⟨fun hc => ?_, fun hc => ?_⟩
      · replace h := h.1 hc
        refine g_iload (i := 4) dX11_crows_75 rfl ?_
        refine g_goto (tgt := 87) dX11_crows_77 rfl ?_
        exact g_sub _ (sub_c (Or.inl rfl) (sub_c (Or.inl rfl) (sub_c (Or.inl rfl) (sub_c (Or.inl rfl) (sub_c (Or.inl rfl) (sub_c (Or.inl rfl) sub_n)))))) h
      · replace h := h.2 hc
        refine g_iload (i := 5) dX11_crows_80 rfl ?_
        refine g_iload (i := 4) dX11_crows_82 rfl ?_
        refine gc_RX11_254 rfl (Nat.le_of_ble_eq_true rfl) dX11_crows_84 (Nat.le_of_ble_eq_true rfl) ?_
        refine Cl.mono h (fun r2 M2 h => ?_)
        exact g_sub _ (sub_c (Or.inl rfl) (sub_c (Or.inl rfl) (sub_c (Or.inl rfl) (sub_c (Or.inl rfl) (sub_c (Or.inl rfl) (sub_c (Or.inl rfl) sub_n)))))) h
theorem bX11_crows_87 {κ : gK} {M : MM} {Q : Int32 → MM → Prop} (s0 : Int32)
    (h : Q s0 M) :
    G κ mX11_crows 87 [.null, .null, .null, .null, .null, .null] [.int s0] M Q := by
  exact g_iret dX11_crows_87 rfl h
theorem eX11_crows {κ : gK} {M : MM} {Q : Int32 → MM → Prop} (l1 : Int32) (l2 : Int32)
    (h : G κ mX11_crows 0 [.ref 119, .int l1, .int l2, .null, .null, .null] [] M Q) : Cl κ mX11_crows [.ref 119, .int l1, .int l2] M Q := g_entry 3 pl_X11_crows (Nat.le_of_ble_eq_true rfl) (L := [.ref 119, .int l1, .int l2, .null, .null, .null]) rfl (g_sub _ (sub_c (Or.inr rfl) (sub_c (Or.inr rfl) (sub_c (Or.inr rfl) (sub_c (Or.inr rfl) (sub_c (Or.inr rfl) (sub_c (Or.inr rfl) sub_n)))))) h)
theorem dX11_know_0 : decode cX11_know 0 = .ok (.aload_n 0, 1) := by decide +kernel
theorem dX11_know_1 : decode cX11_know 1 = .ok (.iload_n 1, 1) := by decide +kernel
theorem dX11_know_2 : decode cX11_know 2 = .ok (.invokevirtual 195, 3) := by decide +kernel
theorem dX11_know_5 : decode cX11_know 5 = .ok (.ifCond .ne 6, 3) := by decide +kernel
theorem dX11_know_8 : decode cX11_know 8 = .ok (.ldc 199, 2) := by decide +kernel
theorem dX11_know_10 : decode cX11_know 10 = .ok (.ireturn, 1) := by decide +kernel
theorem dX11_know_11 : decode cX11_know 11 = .ok (.iload_n 2, 1) := by decide +kernel
theorem dX11_know_12 : decode cX11_know 12 = .ok (.i2l, 1) := by decide +kernel
theorem dX11_know_13 : decode cX11_know 13 = .ok (.lconst 0, 1) := by decide +kernel
theorem dX11_know_14 : decode cX11_know 14 = .ok (.ldc2_w 215, 3) := by decide +kernel
theorem dX11_know_17 : decode cX11_know 17 = .ok (.invokestatic 63, 3) := by decide +kernel
theorem dX11_know_20 : decode cX11_know 20 = .ok (.ifCond .ne 6, 3) := by decide +kernel
theorem dX11_know_23 : decode cX11_know 23 = .ok (.ldc 112, 2) := by decide +kernel
theorem dX11_know_25 : decode cX11_know 25 = .ok (.ireturn, 1) := by decide +kernel
theorem dX11_know_26 : decode cX11_know 26 = .ok (.iconst 1, 1) := by decide +kernel
theorem dX11_know_27 : decode cX11_know 27 = .ok (.iload_n 1, 1) := by decide +kernel
theorem dX11_know_28 : decode cX11_know 28 = .ok (.ishl, 1) := by decide +kernel
theorem dX11_know_29 : decode cX11_know 29 = .ok (.istore_n 3, 1) := by decide +kernel
theorem dX11_know_30 : decode cX11_know 30 = .ok (.iconst 0, 1) := by decide +kernel
theorem dX11_know_31 : decode cX11_know 31 = .ok (.istore 4, 2) := by decide +kernel
theorem dX11_know_33 : decode cX11_know 33 = .ok (.iload 4, 2) := by decide +kernel
theorem dX11_know_35 : decode cX11_know 35 = .ok (.iload_n 2, 1) := by decide +kernel
theorem dX11_know_36 : decode cX11_know 36 = .ok (.if_icmp .ge 104, 3) := by decide +kernel
theorem dX11_know_39 : decode cX11_know 39 = .ok (.iconst 0, 1) := by decide +kernel
theorem dX11_know_40 : decode cX11_know 40 = .ok (.istore 5, 2) := by decide +kernel
theorem dX11_know_42 : decode cX11_know 42 = .ok (.iconst 0, 1) := by decide +kernel
theorem dX11_know_43 : decode cX11_know 43 = .ok (.istore 6, 2) := by decide +kernel
theorem dX11_know_45 : decode cX11_know 45 = .ok (.iload 6, 2) := by decide +kernel
theorem dX11_know_47 : decode cX11_know 47 = .ok (.aload_n 0, 1) := by decide +kernel
theorem dX11_know_48 : decode cX11_know 48 = .ok (.getfield 60, 3) := by decide +kernel
theorem dX11_know_51 : decode cX11_know 51 = .ok (.if_icmp .ge 42, 3) := by decide +kernel
theorem dX11_know_54 : decode cX11_know 54 = .ok (.iload 5, 2) := by decide +kernel
theorem dX11_know_56 : decode cX11_know 56 = .ok (.iload_n 3, 1) := by decide +kernel
theorem dX11_know_57 : decode cX11_know 57 = .ok (.iload 6, 2) := by decide +kernel
theorem dX11_know_59 : decode cX11_know 59 = .ok (.ishr, 1) := by decide +kernel
theorem dX11_know_60 : decode cX11_know 60 = .ok (.iconst 1, 1) := by decide +kernel
theorem dX11_know_61 : decode cX11_know 61 = .ok (.iand, 1) := by decide +kernel
theorem dX11_know_62 : decode cX11_know 62 = .ok (.iconst 1, 1) := by decide +kernel
theorem dX11_know_63 : decode cX11_know 63 = .ok (.if_icmp .ne 20, 3) := by decide +kernel
theorem dX11_know_66 : decode cX11_know 66 = .ok (.aload_n 0, 1) := by decide +kernel
theorem dX11_know_67 : decode cX11_know 67 = .ok (.aload_n 0, 1) := by decide +kernel
theorem dX11_know_68 : decode cX11_know 68 = .ok (.iload 6, 2) := by decide +kernel
theorem dX11_know_70 : decode cX11_know 70 = .ok (.invokevirtual 70, 3) := by decide +kernel
theorem dX11_know_73 : decode cX11_know 73 = .ok (.aload_n 0, 1) := by decide +kernel
theorem dX11_know_74 : decode cX11_know 74 = .ok (.getfield 164, 3) := by decide +kernel
theorem dX11_know_77 : decode cX11_know 77 = .ok (.invokevirtual 77, 3) := by decide +kernel
theorem dX11_know_80 : decode cX11_know 80 = .ok (.goto 4, 3) := by decide +kernel
theorem dX11_know_83 : decode cX11_know 83 = .ok (.iconst 0, 1) := by decide +kernel
theorem dX11_know_84 : decode cX11_know 84 = .ok (.ior, 1) := by decide +kernel
theorem dX11_know_85 : decode cX11_know 85 = .ok (.istore 5, 2) := by decide +kernel
theorem dX11_know_87 : decode cX11_know 87 = .ok (.iinc 6 1, 3) := by decide +kernel
theorem dX11_know_90 : decode cX11_know 90 = .ok (.goto (-45), 3) := by decide +kernel
theorem dX11_know_93 : decode cX11_know 93 = .ok (.iconst 0, 1) := by decide +kernel
theorem dX11_know_94 : decode cX11_know 94 = .ok (.istore 6, 2) := by decide +kernel
theorem dX11_know_96 : decode cX11_know 96 = .ok (.iload 6, 2) := by decide +kernel
theorem dX11_know_98 : decode cX11_know 98 = .ok (.aload_n 0, 1) := by decide +kernel
theorem dX11_know_99 : decode cX11_know 99 = .ok (.getfield 60, 3) := by decide +kernel
theorem dX11_know_102 : decode cX11_know 102 = .ok (.if_icmp .ge 32, 3) := by decide +kernel
theorem dX11_know_105 : decode cX11_know 105 = .ok (.iload_n 3, 1) := by decide +kernel
theorem dX11_know_106 : decode cX11_know 106 = .ok (.aload_n 0, 1) := by decide +kernel
theorem dX11_know_107 : decode cX11_know 107 = .ok (.iload 6, 2) := by decide +kernel
theorem dX11_know_109 : decode cX11_know 109 = .ok (.invokevirtual 70, 3) := by decide +kernel
theorem dX11_know_112 : decode cX11_know 112 = .ok (.iload 5, 2) := by decide +kernel
theorem dX11_know_114 : decode cX11_know 114 = .ok (.iand, 1) := by decide +kernel
theorem dX11_know_115 : decode cX11_know 115 = .ok (.ifCond .eq 10, 3) := by decide +kernel
theorem dX11_know_118 : decode cX11_know 118 = .ok (.iconst 1, 1) := by decide +kernel
theorem dX11_know_119 : decode cX11_know 119 = .ok (.iload 6, 2) := by decide +kernel
theorem dX11_know_121 : decode cX11_know 121 = .ok (.ishl, 1) := by decide +kernel
theorem dX11_know_122 : decode cX11_know 122 = .ok (.goto 4, 3) := by decide +kernel
theorem dX11_know_125 : decode cX11_know 125 = .ok (.iconst 0, 1) := by decide +kernel
theorem dX11_know_126 : decode cX11_know 126 = .ok (.ior, 1) := by decide +kernel
theorem dX11_know_127 : decode cX11_know 127 = .ok (.istore_n 3, 1) := by decide +kernel
theorem dX11_know_128 : decode cX11_know 128 = .ok (.iinc 6 1, 3) := by decide +kernel
theorem dX11_know_131 : decode cX11_know 131 = .ok (.goto (-35), 3) := by decide +kernel
theorem dX11_know_134 : decode cX11_know 134 = .ok (.iinc 4 1, 3) := by decide +kernel
theorem dX11_know_137 : decode cX11_know 137 = .ok (.goto (-104), 3) := by decide +kernel
theorem dX11_know_140 : decode cX11_know 140 = .ok (.iload_n 3, 1) := by decide +kernel
theorem dX11_know_141 : decode cX11_know 141 = .ok (.ireturn, 1) := by decide +kernel
theorem bX11_know_0 {κ : gK} {M : MM} {Q : Int32 → MM → Prop} (l1 : Int32) (l2 : Int32)
    (h : Cl κ mX11_isPerson [.ref 119, .int l1] M (fun r1 M1 => ((r1 = 0 → Q (-1000000001 : Int32) M1) ∧ (¬ r1 = 0 → Cl κ mX11_in [.long (l2).toInt64, .long (0 : Int64), .long (9 : Int64)] M1 (fun r2 M2 => ((r2 = 0 → Q (-1000000002 : Int32) M2) ∧ (¬ r2 = 0 → G κ mX11_know 33 [.ref 119, .null, .int l2, .int (jshl (1 : Int32) l1), .int (0 : Int32), .null, .null] [] M2 Q))))))) :
    G κ mX11_know 0 [.ref 119, .int l1, .int l2, .null, .null, .null, .null] [] M Q := by
  refine g_aload_n (i := 0) dX11_know_0 rfl rfl ?_
  refine g_iload_n (i := 1) dX11_know_1 rfl rfl ?_
  refine gc_RX11_195 rfl (Nat.le_of_ble_eq_true rfl) dX11_know_2 sh_119 (Nat.le_of_ble_eq_true rfl) ?_
  refine Cl.mono h (fun r1 M1 h => ?_)
  refine g_if_ne (tgt := 11) dX11_know_5 rfl ⟨fun hc => ?_, fun hc => ?_⟩
  · replace h := h.1 hc
    refine g_ldc dX11_know_8 wt_984 ?_
    exact g_iret dX11_know_10 rfl h
  · replace h := h.2 hc
    refine g_iload_n (i := 2) dX11_know_11 rfl rfl ?_
    refine g_i2l dX11_know_12 ?_
    refine g_lconst (v := (0 : Int64)) dX11_know_13 (by decide) ?_
    refine g_ldc2 dX11_know_14 wt_1028 ?_
    refine gc_RX11_63 rfl (Nat.le_of_ble_eq_true rfl) dX11_know_17 (Nat.le_of_ble_eq_true rfl) ?_
    refine Cl.mono h (fun r2 M2 h => ?_)
    refine g_if_ne (tgt := 26) dX11_know_20 rfl ⟨fun hc => ?_, fun hc => ?_⟩
    · replace h := h.1 hc
      refine g_ldc dX11_know_23 wt_873 ?_
      exact g_iret dX11_know_25 rfl h
    · replace h := h.2 hc
      refine g_iconst (v := (1 : Int32)) dX11_know_26 (by decide) ?_
      refine g_iload_n (i := 1) dX11_know_27 rfl rfl ?_
      refine g_ishl dX11_know_28 ?_
      refine g_istore_n (i := 3) (L' := [.ref 119, .int l1, .int l2, .int (jshl (1 : Int32) l1), .null, .null, .null]) dX11_know_29 rfl (Nat.le_of_ble_eq_true rfl) rfl rfl ?_
      refine g_iconst (v := (0 : Int32)) dX11_know_30 (by decide) ?_
      refine g_istore (i := 4) (L' := [.ref 119, .int l1, .int l2, .int (jshl (1 : Int32) l1), .int (0 : Int32), .null, .null]) dX11_know_31 (Nat.le_of_ble_eq_true rfl) rfl rfl ?_
      exact g_sub _ (sub_c (Or.inr rfl) (sub_c (Or.inl rfl) (sub_c (Or.inr rfl) (sub_c (Or.inr rfl) (sub_c (Or.inr rfl) (sub_c (Or.inr rfl) (sub_c (Or.inr rfl) sub_n))))))) h
theorem bX11_know_33 {κ : gK} {M : MM} {Q : Int32 → MM → Prop} (l2 : Int32) (l3 : Int32) (l4 : Int32)
    (h : ((l2 ≤ l4 → Q l3 M) ∧ (¬ l2 ≤ l4 → G κ mX11_know 45 [.ref 119, .null, .int l2, .int l3, .int l4, .int (0 : Int32), .int (0 : Int32)] [] M Q))) :
    G κ mX11_know 33 [.ref 119, .null, .int l2, .int l3, .int l4, .null, .null] [] M Q := by
  refine g_iload (i := 4) dX11_know_33 rfl ?_
  refine g_iload_n (i := 2) dX11_know_35 rfl rfl ?_
  refine g_icmp_ge (tgt := 140) dX11_know_36 rfl ⟨fun hc => ?_, fun hc => ?_⟩
  · replace h := h.1 hc
    refine g_iload_n (i := 3) dX11_know_140 rfl rfl ?_
    exact g_iret dX11_know_141 rfl h
  · replace h := h.2 hc
    refine g_iconst (v := (0 : Int32)) dX11_know_39 (by decide) ?_
    refine g_istore (i := 5) (L' := [.ref 119, .null, .int l2, .int l3, .int l4, .int (0 : Int32), .null]) dX11_know_40 (Nat.le_of_ble_eq_true rfl) rfl rfl ?_
    refine g_iconst (v := (0 : Int32)) dX11_know_42 (by decide) ?_
    refine g_istore (i := 6) (L' := [.ref 119, .null, .int l2, .int l3, .int l4, .int (0 : Int32), .int (0 : Int32)]) dX11_know_43 (Nat.le_of_ble_eq_true rfl) rfl rfl ?_
    exact h
theorem bX11_know_45 {κ : gK} {M : MM} {Q : Int32 → MM → Prop} (l2 : Int32) (l3 : Int32) (l4 : Int32) (l5 : Int32) (l6 : Int32)
    (h : (((M 119 2) ≤ l6 → G κ mX11_know 96 [.ref 119, .null, .int l2, .int l3, .int l4, .int l5, .int (0 : Int32)] [] M Q) ∧ (¬ (M 119 2) ≤ l6 → ((((jshr l3 l6) &&& (1 : Int32)) = (1 : Int32) → Cl κ mX11_layersOf [.ref 119, .int l6] M (fun r1 M1 => Cl κ mX11_on [.ref 119, .int r1, .int (M1 119 1)] M1 (fun r2 M2 => G κ mX11_know 84 [.ref 119, .null, .int l2, .int l3, .int l4, .null, .int l6] [.int r2, .int l5] M2 Q))) ∧ (¬ ((jshr l3 l6) &&& (1 : Int32)) = (1 : Int32) → G κ mX11_know 84 [.ref 119, .null, .int l2, .int l3, .int l4, .null, .int l6] [.int (0 : Int32), .int l5] M Q))))) :
    G κ mX11_know 45 [.ref 119, .null, .int l2, .int l3, .int l4, .int l5, .int l6] [] M Q := by
  refine g_iload (i := 6) dX11_know_45 rfl ?_
  refine g_aload_n (i := 0) dX11_know_47 rfl rfl ?_
  refine gf_RX11_60 rfl dX11_know_48 sh_119 ?_
  refine g_icmp_ge (tgt := 93) dX11_know_51 rfl ⟨fun hc => ?_, fun hc => ?_⟩
  · replace h := h.1 hc
    refine g_iconst (v := (0 : Int32)) dX11_know_93 (by decide) ?_
    refine g_istore (i := 6) (L' := [.ref 119, .null, .int l2, .int l3, .int l4, .int l5, .int (0 : Int32)]) dX11_know_94 (Nat.le_of_ble_eq_true rfl) rfl rfl ?_
    exact h
  · replace h := h.2 hc
    refine g_iload (i := 5) dX11_know_54 rfl ?_
    refine g_iload_n (i := 3) dX11_know_56 rfl rfl ?_
    refine g_iload (i := 6) dX11_know_57 rfl ?_
    refine g_ishr dX11_know_59 ?_
    refine g_iconst (v := (1 : Int32)) dX11_know_60 (by decide) ?_
    refine g_iand dX11_know_61 ?_
    refine g_iconst (v := (1 : Int32)) dX11_know_62 (by decide) ?_
    refine g_icmp_ne (tgt := 83) dX11_know_63 rfl ⟨fun hc => ?_, fun hc => ?_⟩
    · replace h := h.1 hc
      refine g_aload_n (i := 0) dX11_know_66 rfl rfl ?_
      refine g_aload_n (i := 0) dX11_know_67 rfl rfl ?_
      refine g_iload (i := 6) dX11_know_68 rfl ?_
      refine gc_RX11_70 rfl (Nat.le_of_ble_eq_true rfl) dX11_know_70 sh_119 (Nat.le_of_ble_eq_true rfl) ?_
      refine Cl.mono h (fun r1 M1 h => ?_)
      refine g_aload_n (i := 0) dX11_know_73 rfl rfl ?_
      refine gf_RX11_164 rfl dX11_know_74 sh_119 ?_
      refine gc_RX11_77 rfl (Nat.le_of_ble_eq_true rfl) dX11_know_77 sh_119 (Nat.le_of_ble_eq_true rfl) ?_
      refine Cl.mono h (fun r2 M2 h => ?_)
      refine g_goto (tgt := 84) dX11_know_80 rfl ?_
      exact g_sub _ (sub_c (Or.inr rfl) (sub_c (Or.inr rfl) (sub_c (Or.inr rfl) (sub_c (Or.inr rfl) (sub_c (Or.inr rfl) (sub_c (Or.inl rfl) (sub_c (Or.inr rfl) sub_n))))))) h
    · replace h := h.2 hc
      refine g_iconst (v := (0 : Int32)) dX11_know_83 (by decide) ?_
      exact g_sub _ (sub_c (Or.inr rfl) (sub_c (Or.inr rfl) (sub_c (Or.inr rfl) (sub_c (Or.inr rfl) (sub_c (Or.inr rfl) (sub_c (Or.inl rfl) (sub_c (Or.inr rfl) sub_n))))))) h
theorem bX11_know_84 {κ : gK} {M : MM} {Q : Int32 → MM → Prop} (l2 : Int32) (l3 : Int32) (l4 : Int32) (l6 : Int32) (s0 : Int32) (s1 : Int32)
    (h : G κ mX11_know 45 [.ref 119, .null, .int l2, .int l3, .int l4, .int (s1 ||| s0), .int (l6 + 1)] [] M Q) :
    G κ mX11_know 84 [.ref 119, .null, .int l2, .int l3, .int l4, .null, .int l6] [.int s0, .int s1] M Q := by
  refine g_ior dX11_know_84 ?_
  refine g_istore (i := 5) (L' := [.ref 119, .null, .int l2, .int l3, .int l4, .int (s1 ||| s0), .int l6]) dX11_know_85 (Nat.le_of_ble_eq_true rfl) rfl rfl ?_
  refine g_iinc (v := (l6 + 1)) (L' := [.ref 119, .null, .int l2, .int l3, .int l4, .int (s1 ||| s0), .int (l6 + 1)]) dX11_know_87 rfl rfl (Nat.le_of_ble_eq_true rfl) rfl rfl ?_
  refine g_goto (tgt := 45) dX11_know_90 rfl ?_
  exact h
theorem bX11_know_96 {κ : gK} {M : MM} {Q : Int32 → MM → Prop} (l2 : Int32) (l3 : Int32) (l4 : Int32) (l5 : Int32) (l6 : Int32)
    (h : (((M 119 2) ≤ l6 → G κ mX11_know 33 [.ref 119, .null, .int l2, .int l3, .int (l4 + 1), .null, .null] [] M Q) ∧ (¬ (M 119 2) ≤ l6 → Cl κ mX11_layersOf [.ref 119, .int l6] M (fun r1 M1 => (((r1 &&& l5) = 0 → G κ mX11_know 126 [.ref 119, .null, .int l2, .null, .int l4, .int l5, .int l6] [.int (0 : Int32), .int l3] M1 Q) ∧ (¬ (r1 &&& l5) = 0 → G κ mX11_know 126 [.ref 119, .null, .int l2, .null, .int l4, .int l5, .int l6] [.int (jshl (1 : Int32) l6), .int l3] M1 Q)))))) :
    G κ mX11_know 96 [.ref 119, .null, .int l2, .int l3, .int l4, .int l5, .int l6] [] M Q := by
  refine g_iload (i := 6) dX11_know_96 rfl ?_
  refine g_aload_n (i := 0) dX11_know_98 rfl rfl ?_
  refine gf_RX11_60 rfl dX11_know_99 sh_119 ?_
  refine g_icmp_ge (tgt := 134) dX11_know_102 rfl ⟨fun hc => ?_, fun hc => ?_⟩
  · replace h := h.1 hc
    refine g_iinc (v := (l4 + 1)) (L' := [.ref 119, .null, .int l2, .int l3, .int (l4 + 1), .int l5, .int l6]) dX11_know_134 rfl rfl (Nat.le_of_ble_eq_true rfl) rfl rfl ?_
    refine g_goto (tgt := 33) dX11_know_137 rfl ?_
    exact g_sub _ (sub_c (Or.inr rfl) (sub_c (Or.inr rfl) (sub_c (Or.inr rfl) (sub_c (Or.inr rfl) (sub_c (Or.inr rfl) (sub_c (Or.inl rfl) (sub_c (Or.inl rfl) sub_n))))))) h
  · replace h := h.2 hc
    refine g_iload_n (i := 3) dX11_know_105 rfl rfl ?_
    refine g_aload_n (i := 0) dX11_know_106 rfl rfl ?_
    refine g_iload (i := 6) dX11_know_107 rfl ?_
    refine gc_RX11_70 rfl (Nat.le_of_ble_eq_true rfl) dX11_know_109 sh_119 (Nat.le_of_ble_eq_true rfl) ?_
    refine Cl.mono h (fun r1 M1 h => ?_)
    refine g_iload (i := 5) dX11_know_112 rfl ?_
    refine g_iand dX11_know_114 ?_
    refine g_if_eq (tgt := 125) dX11_know_115 rfl ⟨fun hc => ?_, fun hc => ?_⟩
    · replace h := h.1 hc
      refine g_iconst (v := (0 : Int32)) dX11_know_125 (by decide) ?_
      exact g_sub _ (sub_c (Or.inr rfl) (sub_c (Or.inr rfl) (sub_c (Or.inr rfl) (sub_c (Or.inl rfl) (sub_c (Or.inr rfl) (sub_c (Or.inr rfl) (sub_c (Or.inr rfl) sub_n))))))) h
    · replace h := h.2 hc
      refine g_iconst (v := (1 : Int32)) dX11_know_118 (by decide) ?_
      refine g_iload (i := 6) dX11_know_119 rfl ?_
      refine g_ishl dX11_know_121 ?_
      refine g_goto (tgt := 126) dX11_know_122 rfl ?_
      exact g_sub _ (sub_c (Or.inr rfl) (sub_c (Or.inr rfl) (sub_c (Or.inr rfl) (sub_c (Or.inl rfl) (sub_c (Or.inr rfl) (sub_c (Or.inr rfl) (sub_c (Or.inr rfl) sub_n))))))) h
theorem bX11_know_126 {κ : gK} {M : MM} {Q : Int32 → MM → Prop} (l2 : Int32) (l4 : Int32) (l5 : Int32) (l6 : Int32) (s0 : Int32) (s1 : Int32)
    (h : G κ mX11_know 96 [.ref 119, .null, .int l2, .int (s1 ||| s0), .int l4, .int l5, .int (l6 + 1)] [] M Q) :
    G κ mX11_know 126 [.ref 119, .null, .int l2, .null, .int l4, .int l5, .int l6] [.int s0, .int s1] M Q := by
  refine g_ior dX11_know_126 ?_
  refine g_istore_n (i := 3) (L' := [.ref 119, .null, .int l2, .int (s1 ||| s0), .int l4, .int l5, .int l6]) dX11_know_127 rfl (Nat.le_of_ble_eq_true rfl) rfl rfl ?_
  refine g_iinc (v := (l6 + 1)) (L' := [.ref 119, .null, .int l2, .int (s1 ||| s0), .int l4, .int l5, .int (l6 + 1)]) dX11_know_128 rfl rfl (Nat.le_of_ble_eq_true rfl) rfl rfl ?_
  refine g_goto (tgt := 96) dX11_know_131 rfl ?_
  exact h
theorem eX11_know {κ : gK} {M : MM} {Q : Int32 → MM → Prop} (l1 : Int32) (l2 : Int32)
    (h : G κ mX11_know 0 [.ref 119, .int l1, .int l2, .null, .null, .null, .null] [] M Q) : Cl κ mX11_know [.ref 119, .int l1, .int l2] M Q := g_entry 4 pl_X11_know (Nat.le_of_ble_eq_true rfl) (L := [.ref 119, .int l1, .int l2, .null, .null, .null, .null]) rfl (g_sub _ (sub_c (Or.inr rfl) (sub_c (Or.inr rfl) (sub_c (Or.inr rfl) (sub_c (Or.inr rfl) (sub_c (Or.inr rfl) (sub_c (Or.inr rfl) (sub_c (Or.inr rfl) sub_n))))))) h)
theorem dX11_markets_0 : decode cX11_markets 0 = .ok (.iconst 0, 1) := by decide +kernel
theorem dX11_markets_1 : decode cX11_markets 1 = .ok (.istore_n 1, 1) := by decide +kernel
theorem dX11_markets_2 : decode cX11_markets 2 = .ok (.iload_n 1, 1) := by decide +kernel
theorem dX11_markets_3 : decode cX11_markets 3 = .ok (.sipush 256, 3) := by decide +kernel
theorem dX11_markets_6 : decode cX11_markets 6 = .ok (.if_icmp .ge 25, 3) := by decide +kernel
theorem dX11_markets_9 : decode cX11_markets 9 = .ok (.aload_n 0, 1) := by decide +kernel
theorem dX11_markets_10 : decode cX11_markets 10 = .ok (.getfield 38, 3) := by decide +kernel
theorem dX11_markets_13 : decode cX11_markets 13 = .ok (.sipush 256, 3) := by decide +kernel
theorem dX11_markets_16 : decode cX11_markets 16 = .ok (.aload_n 0, 1) := by decide +kernel
theorem dX11_markets_17 : decode cX11_markets 17 = .ok (.getfield 67, 3) := by decide +kernel
theorem dX11_markets_20 : decode cX11_markets 20 = .ok (.imul, 1) := by decide +kernel
theorem dX11_markets_21 : decode cX11_markets 21 = .ok (.iload_n 1, 1) := by decide +kernel
theorem dX11_markets_22 : decode cX11_markets 22 = .ok (.iadd, 1) := by decide +kernel
theorem dX11_markets_23 : decode cX11_markets 23 = .ok (.iconst 0, 1) := by decide +kernel
theorem dX11_markets_24 : decode cX11_markets 24 = .ok (.iastore, 1) := by decide +kernel
theorem dX11_markets_25 : decode cX11_markets 25 = .ok (.iinc 1 1, 3) := by decide +kernel
theorem dX11_markets_28 : decode cX11_markets 28 = .ok (.goto (-26), 3) := by decide +kernel
theorem dX11_markets_31 : decode cX11_markets 31 = .ok (.aload_n 0, 1) := by decide +kernel
theorem dX11_markets_32 : decode cX11_markets 32 = .ok (.getfield 67, 3) := by decide +kernel
theorem dX11_markets_35 : decode cX11_markets 35 = .ok (.iconst 1, 1) := by decide +kernel
theorem dX11_markets_36 : decode cX11_markets 36 = .ok (.isub, 1) := by decide +kernel
theorem dX11_markets_37 : decode cX11_markets 37 = .ok (.istore_n 1, 1) := by decide +kernel
theorem dX11_markets_38 : decode cX11_markets 38 = .ok (.iload_n 1, 1) := by decide +kernel
theorem dX11_markets_39 : decode cX11_markets 39 = .ok (.ifCond .lt 145, 3) := by decide +kernel
theorem dX11_markets_42 : decode cX11_markets 42 = .ok (.iconst 0, 1) := by decide +kernel
theorem dX11_markets_43 : decode cX11_markets 43 = .ok (.istore_n 2, 1) := by decide +kernel
theorem dX11_markets_44 : decode cX11_markets 44 = .ok (.iload_n 2, 1) := by decide +kernel
theorem dX11_markets_45 : decode cX11_markets 45 = .ok (.iconst 1, 1) := by decide +kernel
theorem dX11_markets_46 : decode cX11_markets 46 = .ok (.aload_n 0, 1) := by decide +kernel
theorem dX11_markets_47 : decode cX11_markets 47 = .ok (.getfield 60, 3) := by decide +kernel
theorem dX11_markets_50 : decode cX11_markets 50 = .ok (.ishl, 1) := by decide +kernel
theorem dX11_markets_51 : decode cX11_markets 51 = .ok (.if_icmp .ge 127, 3) := by decide +kernel
theorem dX11_markets_54 : decode cX11_markets 54 = .ok (.aload_n 0, 1) := by decide +kernel
theorem dX11_markets_55 : decode cX11_markets 55 = .ok (.getfield 38, 3) := by decide +kernel
theorem dX11_markets_58 : decode cX11_markets 58 = .ok (.sipush 256, 3) := by decide +kernel
theorem dX11_markets_61 : decode cX11_markets 61 = .ok (.iload_n 1, 1) := by decide +kernel
theorem dX11_markets_62 : decode cX11_markets 62 = .ok (.iconst 1, 1) := by decide +kernel
theorem dX11_markets_63 : decode cX11_markets 63 = .ok (.iadd, 1) := by decide +kernel
theorem dX11_markets_64 : decode cX11_markets 64 = .ok (.imul, 1) := by decide +kernel
theorem dX11_markets_65 : decode cX11_markets 65 = .ok (.iload_n 2, 1) := by decide +kernel
theorem dX11_markets_66 : decode cX11_markets 66 = .ok (.iadd, 1) := by decide +kernel
theorem dX11_markets_67 : decode cX11_markets 67 = .ok (.iaload, 1) := by decide +kernel
theorem dX11_markets_68 : decode cX11_markets 68 = .ok (.istore_n 3, 1) := by decide +kernel
theorem dX11_markets_69 : decode cX11_markets 69 = .ok (.iconst 0, 1) := by decide +kernel
theorem dX11_markets_70 : decode cX11_markets 70 = .ok (.istore 4, 2) := by decide +kernel
theorem dX11_markets_72 : decode cX11_markets 72 = .ok (.iload 4, 2) := by decide +kernel
theorem dX11_markets_74 : decode cX11_markets 74 = .ok (.aload_n 0, 1) := by decide +kernel
theorem dX11_markets_75 : decode cX11_markets 75 = .ok (.getfield 60, 3) := by decide +kernel
theorem dX11_markets_78 : decode cX11_markets 78 = .ok (.if_icmp .ge 81, 3) := by decide +kernel
theorem dX11_markets_81 : decode cX11_markets 81 = .ok (.iload_n 2, 1) := by decide +kernel
theorem dX11_markets_82 : decode cX11_markets 82 = .ok (.iload 4, 2) := by decide +kernel
theorem dX11_markets_84 : decode cX11_markets 84 = .ok (.ishr, 1) := by decide +kernel
theorem dX11_markets_85 : decode cX11_markets 85 = .ok (.iconst 1, 1) := by decide +kernel
theorem dX11_markets_86 : decode cX11_markets 86 = .ok (.iand, 1) := by decide +kernel
theorem dX11_markets_87 : decode cX11_markets 87 = .ok (.iconst 1, 1) := by decide +kernel
theorem dX11_markets_88 : decode cX11_markets 88 = .ok (.if_icmp .ne 17, 3) := by decide +kernel
theorem dX11_markets_91 : decode cX11_markets 91 = .ok (.aload_n 0, 1) := by decide +kernel
theorem dX11_markets_92 : decode cX11_markets 92 = .ok (.iload 4, 2) := by decide +kernel
theorem dX11_markets_94 : decode cX11_markets 94 = .ok (.iload_n 1, 1) := by decide +kernel
theorem dX11_markets_95 : decode cX11_markets 95 = .ok (.invokevirtual 96, 3) := by decide +kernel
theorem dX11_markets_98 : decode cX11_markets 98 = .ok (.ifCond .eq 7, 3) := by decide +kernel
theorem dX11_markets_101 : decode cX11_markets 101 = .ok (.iconst 1, 1) := by decide +kernel
theorem dX11_markets_102 : decode cX11_markets 102 = .ok (.goto 4, 3) := by decide +kernel
theorem dX11_markets_105 : decode cX11_markets 105 = .ok (.iconst 0, 1) := by decide +kernel
theorem dX11_markets_106 : decode cX11_markets 106 = .ok (.istore 5, 2) := by decide +kernel
theorem dX11_markets_108 : decode cX11_markets 108 = .ok (.iload 5, 2) := by decide +kernel
theorem dX11_markets_110 : decode cX11_markets 110 = .ok (.ifCond .eq 27, 3) := by decide +kernel
theorem dX11_markets_113 : decode cX11_markets 113 = .ok (.iconst 1, 1) := by decide +kernel
theorem dX11_markets_114 : decode cX11_markets 114 = .ok (.aload_n 0, 1) := by decide +kernel
theorem dX11_markets_115 : decode cX11_markets 115 = .ok (.getfield 38, 3) := by decide +kernel
theorem dX11_markets_118 : decode cX11_markets 118 = .ok (.sipush 256, 3) := by decide +kernel
theorem dX11_markets_121 : decode cX11_markets 121 = .ok (.iload_n 1, 1) := by decide +kernel
theorem dX11_markets_122 : decode cX11_markets 122 = .ok (.iconst 1, 1) := by decide +kernel
theorem dX11_markets_123 : decode cX11_markets 123 = .ok (.iadd, 1) := by decide +kernel
theorem dX11_markets_124 : decode cX11_markets 124 = .ok (.imul, 1) := by decide +kernel
theorem dX11_markets_125 : decode cX11_markets 125 = .ok (.iload_n 2, 1) := by decide +kernel
theorem dX11_markets_126 : decode cX11_markets 126 = .ok (.iconst 1, 1) := by decide +kernel
theorem dX11_markets_127 : decode cX11_markets 127 = .ok (.iload 4, 2) := by decide +kernel
theorem dX11_markets_129 : decode cX11_markets 129 = .ok (.ishl, 1) := by decide +kernel
theorem dX11_markets_130 : decode cX11_markets 130 = .ok (.ixor, 1) := by decide +kernel
theorem dX11_markets_131 : decode cX11_markets 131 = .ok (.iadd, 1) := by decide +kernel
theorem dX11_markets_132 : decode cX11_markets 132 = .ok (.iaload, 1) := by decide +kernel
theorem dX11_markets_133 : decode cX11_markets 133 = .ok (.iadd, 1) := by decide +kernel
theorem dX11_markets_134 : decode cX11_markets 134 = .ok (.goto 4, 3) := by decide +kernel
theorem dX11_markets_137 : decode cX11_markets 137 = .ok (.iconst 0, 1) := by decide +kernel
theorem dX11_markets_138 : decode cX11_markets 138 = .ok (.istore 6, 2) := by decide +kernel
theorem dX11_markets_140 : decode cX11_markets 140 = .ok (.iload 6, 2) := by decide +kernel
theorem dX11_markets_142 : decode cX11_markets 142 = .ok (.iload_n 3, 1) := by decide +kernel
theorem dX11_markets_143 : decode cX11_markets 143 = .ok (.if_icmp .le 8, 3) := by decide +kernel
theorem dX11_markets_146 : decode cX11_markets 146 = .ok (.iload 6, 2) := by decide +kernel
theorem dX11_markets_148 : decode cX11_markets 148 = .ok (.goto 4, 3) := by decide +kernel
theorem dX11_markets_151 : decode cX11_markets 151 = .ok (.iload_n 3, 1) := by decide +kernel
theorem dX11_markets_152 : decode cX11_markets 152 = .ok (.istore_n 3, 1) := by decide +kernel
theorem dX11_markets_153 : decode cX11_markets 153 = .ok (.iinc 4 1, 3) := by decide +kernel
theorem dX11_markets_156 : decode cX11_markets 156 = .ok (.goto (-84), 3) := by decide +kernel
theorem dX11_markets_159 : decode cX11_markets 159 = .ok (.aload_n 0, 1) := by decide +kernel
theorem dX11_markets_160 : decode cX11_markets 160 = .ok (.getfield 38, 3) := by decide +kernel
theorem dX11_markets_163 : decode cX11_markets 163 = .ok (.sipush 256, 3) := by decide +kernel
theorem dX11_markets_166 : decode cX11_markets 166 = .ok (.iload_n 1, 1) := by decide +kernel
theorem dX11_markets_167 : decode cX11_markets 167 = .ok (.imul, 1) := by decide +kernel
theorem dX11_markets_168 : decode cX11_markets 168 = .ok (.iload_n 2, 1) := by decide +kernel
theorem dX11_markets_169 : decode cX11_markets 169 = .ok (.iadd, 1) := by decide +kernel
theorem dX11_markets_170 : decode cX11_markets 170 = .ok (.iload_n 3, 1) := by decide +kernel
theorem dX11_markets_171 : decode cX11_markets 171 = .ok (.iastore, 1) := by decide +kernel
theorem dX11_markets_172 : decode cX11_markets 172 = .ok (.iinc 2 1, 3) := by decide +kernel
theorem dX11_markets_175 : decode cX11_markets 175 = .ok (.goto (-131), 3) := by decide +kernel
theorem dX11_markets_178 : decode cX11_markets 178 = .ok (.iinc 1 (-1), 3) := by decide +kernel
theorem dX11_markets_181 : decode cX11_markets 181 = .ok (.goto (-143), 3) := by decide +kernel
theorem dX11_markets_184 : decode cX11_markets 184 = .ok (.return_, 1) := by decide +kernel
theorem bX11_markets_0 {κ : gK} {M : MM} {Q : Int32 → MM → Prop} 
    (h : G κ mX11_markets 2 [.ref 119, .int (0 : Int32), .null, .null, .null, .null, .null] [] M Q) :
    G κ mX11_markets 0 [.ref 119, .null, .null, .null, .null, .null, .null] [] M Q := by
  refine g_iconst (v := (0 : Int32)) dX11_markets_0 (by decide) ?_
  refine g_istore_n (i := 1) (L' := [.ref 119, .int (0 : Int32), .null, .null, .null, .null, .null]) dX11_markets_1 rfl (Nat.le_of_ble_eq_true rfl) rfl rfl ?_
  exact h
theorem bX11_markets_2 {κ : gK} {M : MM} {Q : Int32 → MM → Prop} (l1 : Int32)
    (h : (((256 : Int32) ≤ l1 → ∀ v1 : Int32, v1 = ((M 119 0) - (1 : Int32)) → (G κ mX11_markets 38 [.ref 119, .int v1, .null, .null, .null, .null, .null] [] M Q)) ∧ (¬ (256 : Int32) ≤ l1 → (vp_in (((256 : Int32) * (M 119 0)) + l1) 2560) ∧ (∀ M2 : MM, M2 = (pt M 128 ((((256 : Int32) * (M 119 0)) + l1)).toNatClampNeg (0 : Int32)) → (G κ mX11_markets 2 [.ref 119, .int (l1 + 1), .null, .null, .null, .null, .null] [] M2 Q))))) :
    G κ mX11_markets 2 [.ref 119, .int l1, .null, .null, .null, .null, .null] [] M Q := by
  refine g_iload_n (i := 1) dX11_markets_2 rfl rfl ?_
  refine g_sipush (v := (256 : Int32)) dX11_markets_3 (by decide) ?_
  refine g_icmp_ge (tgt := 31) dX11_markets_6 rfl ⟨fun hc => ?_, fun hc => ?_⟩
  · replace h := h.1 hc
    refine g_aload_n (i := 0) dX11_markets_31 rfl rfl ?_
    refine gf_RX11_67 rfl dX11_markets_32 sh_119 ?_
    refine g_iconst (v := (1 : Int32)) dX11_markets_35 (by decide) ?_
    refine g_isub dX11_markets_36 ?_
    refine lv_nm (fun v1 hn1 => ?_) (x := ((M 119 0) - (1 : Int32)))
    replace h := h v1 hn1
    refine g_istore_n (i := 1) (L' := [.ref 119, .int v1, .null, .null, .null, .null, .null]) dX11_markets_37 rfl (Nat.le_of_ble_eq_true rfl) rfl rfl ?_
    exact h
  · replace h := h.2 hc
    refine g_aload_n (i := 0) dX11_markets_9 rfl rfl ?_
    refine gf_RX11_38 rfl dX11_markets_10 sh_119 ?_
    refine g_sipush (v := (256 : Int32)) dX11_markets_13 (by decide) ?_
    refine g_aload_n (i := 0) dX11_markets_16 rfl rfl ?_
    refine gf_RX11_67 rfl dX11_markets_17 sh_119 ?_
    refine g_imul dX11_markets_20 ?_
    refine g_iload_n (i := 1) dX11_markets_21 rfl rfl ?_
    refine g_iadd dX11_markets_22 ?_
    refine g_iconst (v := (0 : Int32)) dX11_markets_23 (by decide) ?_
    have hv1 := h.1; replace h := h.2
    refine g_iastP dX11_markets_24 sh_128 hv1 ?_
    refine g_nmM (fun M2 hM2 => ?_); replace h := h M2 hM2
    refine g_iinc (v := (l1 + 1)) (L' := [.ref 119, .int (l1 + 1), .null, .null, .null, .null, .null]) dX11_markets_25 rfl rfl (Nat.le_of_ble_eq_true rfl) rfl rfl ?_
    refine g_goto (tgt := 2) dX11_markets_28 rfl ?_
    exact h
theorem bX11_markets_38 {κ : gK} {M : MM} {Q : Int32 → MM → Prop} (l1 : Int32)
    (h : ((l1 < 0 → Q 0 M) ∧ (¬ l1 < 0 → G κ mX11_markets 44 [.ref 119, .int l1, .int (0 : Int32), .null, .null, .null, .null] [] M Q))) :
    G κ mX11_markets 38 [.ref 119, .int l1, .null, .null, .null, .null, .null] [] M Q := by
  refine g_iload_n (i := 1) dX11_markets_38 rfl rfl ?_
  refine g_if_lt (tgt := 184) dX11_markets_39 rfl ⟨fun hc => ?_, fun hc => ?_⟩
  · replace h := h.1 hc
    exact g_vret dX11_markets_184 rfl h
  · replace h := h.2 hc
    refine g_iconst (v := (0 : Int32)) dX11_markets_42 (by decide) ?_
    refine g_istore_n (i := 2) (L' := [.ref 119, .int l1, .int (0 : Int32), .null, .null, .null, .null]) dX11_markets_43 rfl (Nat.le_of_ble_eq_true rfl) rfl rfl ?_
    exact h
theorem bX11_markets_44 {κ : gK} {M : MM} {Q : Int32 → MM → Prop} (l1 : Int32) (l2 : Int32)
    (h : (((jshl (1 : Int32) (M 119 2)) ≤ l2 → G κ mX11_markets 38 [.ref 119, .int (l1 + (-1)), .null, .null, .null, .null, .null] [] M Q) ∧ (¬ (jshl (1 : Int32) (M 119 2)) ≤ l2 → (vp_in (((256 : Int32) * (l1 + (1 : Int32))) + l2) 2560) ∧ (∀ v1 : Int32, v1 = (M 128 ((((256 : Int32) * (l1 + (1 : Int32))) + l2)).toNatClampNeg) → (G κ mX11_markets 72 [.ref 119, .int l1, .int l2, .int v1, .int (0 : Int32), .null, .null] [] M Q))))) :
    G κ mX11_markets 44 [.ref 119, .int l1, .int l2, .null, .null, .null, .null] [] M Q := by
  refine g_iload_n (i := 2) dX11_markets_44 rfl rfl ?_
  refine g_iconst (v := (1 : Int32)) dX11_markets_45 (by decide) ?_
  refine g_aload_n (i := 0) dX11_markets_46 rfl rfl ?_
  refine gf_RX11_60 rfl dX11_markets_47 sh_119 ?_
  refine g_ishl dX11_markets_50 ?_
  refine g_icmp_ge (tgt := 178) dX11_markets_51 rfl ⟨fun hc => ?_, fun hc => ?_⟩
  · replace h := h.1 hc
    refine g_iinc (v := (l1 + (-1))) (L' := [.ref 119, .int (l1 + (-1)), .int l2, .null, .null, .null, .null]) dX11_markets_178 rfl rfl (Nat.le_of_ble_eq_true rfl) rfl rfl ?_
    refine g_goto (tgt := 38) dX11_markets_181 rfl ?_
    exact g_sub _ (sub_c (Or.inr rfl) (sub_c (Or.inr rfl) (sub_c (Or.inl rfl) (sub_c (Or.inr rfl) (sub_c (Or.inr rfl) (sub_c (Or.inr rfl) (sub_c (Or.inr rfl) sub_n))))))) h
  · replace h := h.2 hc
    refine g_aload_n (i := 0) dX11_markets_54 rfl rfl ?_
    refine gf_RX11_38 rfl dX11_markets_55 sh_119 ?_
    refine g_sipush (v := (256 : Int32)) dX11_markets_58 (by decide) ?_
    refine g_iload_n (i := 1) dX11_markets_61 rfl rfl ?_
    refine g_iconst (v := (1 : Int32)) dX11_markets_62 (by decide) ?_
    refine g_iadd dX11_markets_63 ?_
    refine g_imul dX11_markets_64 ?_
    refine g_iload_n (i := 2) dX11_markets_65 rfl rfl ?_
    refine g_iadd dX11_markets_66 ?_
    have hv1 := h.1; replace h := h.2
    refine g_iald dX11_markets_67 sh_128 hv1 ?_
    refine lv_nm (fun v1 hn1 => ?_) (x := (M 128 ((((256 : Int32) * (l1 + (1 : Int32))) + l2)).toNatClampNeg))
    replace h := h v1 hn1
    refine g_istore_n (i := 3) (L' := [.ref 119, .int l1, .int l2, .int v1, .null, .null, .null]) dX11_markets_68 rfl (Nat.le_of_ble_eq_true rfl) rfl rfl ?_
    refine g_iconst (v := (0 : Int32)) dX11_markets_69 (by decide) ?_
    refine g_istore (i := 4) (L' := [.ref 119, .int l1, .int l2, .int v1, .int (0 : Int32), .null, .null]) dX11_markets_70 (Nat.le_of_ble_eq_true rfl) rfl rfl ?_
    exact h
theorem bX11_markets_72 {κ : gK} {M : MM} {Q : Int32 → MM → Prop} (l1 : Int32) (l2 : Int32) (l3 : Int32) (l4 : Int32)
    (h : (((M 119 2) ≤ l4 → (vp_in (((256 : Int32) * l1) + l2) 2560) ∧ (∀ M1 : MM, M1 = (pt M 128 ((((256 : Int32) * l1) + l2)).toNatClampNeg l3) → (G κ mX11_markets 44 [.ref 119, .int l1, .int (l2 + 1), .null, .null, .null, .null] [] M1 Q))) ∧ (¬ (M 119 2) ≤ l4 → ((((jshr l2 l4) &&& (1 : Int32)) = (1 : Int32) → Cl κ mX11_isOn [.ref 119, .int l4, .int l1] M (fun r2 M2 => ((r2 = 0 → G κ mX11_markets 105 [.ref 119, .int l1, .int l2, .int l3, .int l4, .null, .null] [] M2 Q) ∧ (¬ r2 = 0 → G κ mX11_markets 106 [.ref 119, .int l1, .int l2, .int l3, .int l4, .null, .null] [.int (1 : Int32)] M2 Q)))) ∧ (¬ ((jshr l2 l4) &&& (1 : Int32)) = (1 : Int32) → G κ mX11_markets 105 [.ref 119, .int l1, .int l2, .int l3, .int l4, .null, .null] [] M Q))))) :
    G κ mX11_markets 72 [.ref 119, .int l1, .int l2, .int l3, .int l4, .null, .null] [] M Q := by
  refine g_iload (i := 4) dX11_markets_72 rfl ?_
  refine g_aload_n (i := 0) dX11_markets_74 rfl rfl ?_
  refine gf_RX11_60 rfl dX11_markets_75 sh_119 ?_
  refine g_icmp_ge (tgt := 159) dX11_markets_78 rfl ⟨fun hc => ?_, fun hc => ?_⟩
  · replace h := h.1 hc
    refine g_aload_n (i := 0) dX11_markets_159 rfl rfl ?_
    refine gf_RX11_38 rfl dX11_markets_160 sh_119 ?_
    refine g_sipush (v := (256 : Int32)) dX11_markets_163 (by decide) ?_
    refine g_iload_n (i := 1) dX11_markets_166 rfl rfl ?_
    refine g_imul dX11_markets_167 ?_
    refine g_iload_n (i := 2) dX11_markets_168 rfl rfl ?_
    refine g_iadd dX11_markets_169 ?_
    refine g_iload_n (i := 3) dX11_markets_170 rfl rfl ?_
    have hv1 := h.1; replace h := h.2
    refine g_iastP dX11_markets_171 sh_128 hv1 ?_
    refine g_nmM (fun M1 hM1 => ?_); replace h := h M1 hM1
    refine g_iinc (v := (l2 + 1)) (L' := [.ref 119, .int l1, .int (l2 + 1), .int l3, .int l4, .null, .null]) dX11_markets_172 rfl rfl (Nat.le_of_ble_eq_true rfl) rfl rfl ?_
    refine g_goto (tgt := 44) dX11_markets_175 rfl ?_
    exact g_sub _ (sub_c (Or.inr rfl) (sub_c (Or.inr rfl) (sub_c (Or.inr rfl) (sub_c (Or.inl rfl) (sub_c (Or.inl rfl) (sub_c (Or.inr rfl) (sub_c (Or.inr rfl) sub_n))))))) h
  · replace h := h.2 hc
    refine g_iload_n (i := 2) dX11_markets_81 rfl rfl ?_
    refine g_iload (i := 4) dX11_markets_82 rfl ?_
    refine g_ishr dX11_markets_84 ?_
    refine g_iconst (v := (1 : Int32)) dX11_markets_85 (by decide) ?_
    refine g_iand dX11_markets_86 ?_
    refine g_iconst (v := (1 : Int32)) dX11_markets_87 (by decide) ?_
    refine g_icmp_ne (tgt := 105) dX11_markets_88 rfl ⟨fun hc => ?_, fun hc => ?_⟩
    · replace h := h.1 hc
      refine g_aload_n (i := 0) dX11_markets_91 rfl rfl ?_
      refine g_iload (i := 4) dX11_markets_92 rfl ?_
      refine g_iload_n (i := 1) dX11_markets_94 rfl rfl ?_
      refine gc_RX11_96 rfl (Nat.le_of_ble_eq_true rfl) dX11_markets_95 sh_119 (Nat.le_of_ble_eq_true rfl) ?_
      refine Cl.mono h (fun r2 M2 h => ?_)
      refine g_if_eq (tgt := 105) dX11_markets_98 rfl ⟨fun hc => ?_, fun hc => ?_⟩
      · replace h := h.1 hc
        exact h
      · replace h := h.2 hc
        refine g_iconst (v := (1 : Int32)) dX11_markets_101 (by decide) ?_
        refine g_goto (tgt := 106) dX11_markets_102 rfl ?_
        exact h
    · replace h := h.2 hc
      exact h
theorem bX11_markets_105 {κ : gK} {M : MM} {Q : Int32 → MM → Prop} (l1 : Int32) (l2 : Int32) (l3 : Int32) (l4 : Int32)
    (h : G κ mX11_markets 106 [.ref 119, .int l1, .int l2, .int l3, .int l4, .null, .null] [.int (0 : Int32)] M Q) :
    G κ mX11_markets 105 [.ref 119, .int l1, .int l2, .int l3, .int l4, .null, .null] [] M Q := by
  refine g_iconst (v := (0 : Int32)) dX11_markets_105 (by decide) ?_
  exact h
theorem bX11_markets_106 {κ : gK} {M : MM} {Q : Int32 → MM → Prop} (l1 : Int32) (l2 : Int32) (l3 : Int32) (l4 : Int32) (s0 : Int32)
    (h : ((s0 = 0 → G κ mX11_markets 138 [.ref 119, .int l1, .int l2, .int l3, .int l4, .null, .null] [.int (0 : Int32)] M Q) ∧ (¬ s0 = 0 → (vp_in (((256 : Int32) * (l1 + (1 : Int32))) + (l2 ^^^ (jshl (1 : Int32) l4))) 2560) ∧ (G κ mX11_markets 138 [.ref 119, .int l1, .int l2, .int l3, .int l4, .null, .null] [.int ((1 : Int32) + (M 128 ((((256 : Int32) * (l1 + (1 : Int32))) + (l2 ^^^ (jshl (1 : Int32) l4)))).toNatClampNeg))] M Q)))) :
    G κ mX11_markets 106 [.ref 119, .int l1, .int l2, .int l3, .int l4, .null, .null] [.int s0] M Q := by
  refine g_istore (i := 5) (L' := [.ref 119, .int l1, .int l2, .int l3, .int l4, .int s0, .null]) dX11_markets_106 (Nat.le_of_ble_eq_true rfl) rfl rfl ?_
  refine g_iload (i := 5) dX11_markets_108 rfl ?_
  refine g_if_eq (tgt := 137) dX11_markets_110 rfl ⟨fun hc => ?_, fun hc => ?_⟩
  · replace h := h.1 hc
    refine g_iconst (v := (0 : Int32)) dX11_markets_137 (by decide) ?_
    exact g_sub _ (sub_c (Or.inr rfl) (sub_c (Or.inr rfl) (sub_c (Or.inr rfl) (sub_c (Or.inr rfl) (sub_c (Or.inr rfl) (sub_c (Or.inl rfl) (sub_c (Or.inr rfl) sub_n))))))) h
  · replace h := h.2 hc
    refine g_iconst (v := (1 : Int32)) dX11_markets_113 (by decide) ?_
    refine g_aload_n (i := 0) dX11_markets_114 rfl rfl ?_
    refine gf_RX11_38 rfl dX11_markets_115 sh_119 ?_
    refine g_sipush (v := (256 : Int32)) dX11_markets_118 (by decide) ?_
    refine g_iload_n (i := 1) dX11_markets_121 rfl rfl ?_
    refine g_iconst (v := (1 : Int32)) dX11_markets_122 (by decide) ?_
    refine g_iadd dX11_markets_123 ?_
    refine g_imul dX11_markets_124 ?_
    refine g_iload_n (i := 2) dX11_markets_125 rfl rfl ?_
    refine g_iconst (v := (1 : Int32)) dX11_markets_126 (by decide) ?_
    refine g_iload (i := 4) dX11_markets_127 rfl ?_
    refine g_ishl dX11_markets_129 ?_
    refine g_ixor dX11_markets_130 ?_
    refine g_iadd dX11_markets_131 ?_
    have hv1 := h.1; replace h := h.2
    refine g_iald dX11_markets_132 sh_128 hv1 ?_
    refine g_iadd dX11_markets_133 ?_
    refine g_goto (tgt := 138) dX11_markets_134 rfl ?_
    exact g_sub _ (sub_c (Or.inr rfl) (sub_c (Or.inr rfl) (sub_c (Or.inr rfl) (sub_c (Or.inr rfl) (sub_c (Or.inr rfl) (sub_c (Or.inl rfl) (sub_c (Or.inr rfl) sub_n))))))) h
theorem bX11_markets_138 {κ : gK} {M : MM} {Q : Int32 → MM → Prop} (l1 : Int32) (l2 : Int32) (l3 : Int32) (l4 : Int32) (s0 : Int32)
    (h : ((s0 ≤ l3 → G κ mX11_markets 152 [.ref 119, .int l1, .int l2, .null, .int l4, .null, .null] [.int l3] M Q) ∧ (¬ s0 ≤ l3 → G κ mX11_markets 152 [.ref 119, .int l1, .int l2, .null, .int l4, .null, .null] [.int s0] M Q))) :
    G κ mX11_markets 138 [.ref 119, .int l1, .int l2, .int l3, .int l4, .null, .null] [.int s0] M Q := by
  refine g_istore (i := 6) (L' := [.ref 119, .int l1, .int l2, .int l3, .int l4, .null, .int s0]) dX11_markets_138 (Nat.le_of_ble_eq_true rfl) rfl rfl ?_
  refine g_iload (i := 6) dX11_markets_140 rfl ?_
  refine g_iload_n (i := 3) dX11_markets_142 rfl rfl ?_
  refine g_icmp_le (tgt := 151) dX11_markets_143 rfl ⟨fun hc => ?_, fun hc => ?_⟩
  · replace h := h.1 hc
    refine g_iload_n (i := 3) dX11_markets_151 rfl rfl ?_
    exact g_sub _ (sub_c (Or.inr rfl) (sub_c (Or.inr rfl) (sub_c (Or.inr rfl) (sub_c (Or.inl rfl) (sub_c (Or.inr rfl) (sub_c (Or.inr rfl) (sub_c (Or.inl rfl) sub_n))))))) h
  · replace h := h.2 hc
    refine g_iload (i := 6) dX11_markets_146 rfl ?_
    refine g_goto (tgt := 152) dX11_markets_148 rfl ?_
    exact g_sub _ (sub_c (Or.inr rfl) (sub_c (Or.inr rfl) (sub_c (Or.inr rfl) (sub_c (Or.inl rfl) (sub_c (Or.inr rfl) (sub_c (Or.inr rfl) (sub_c (Or.inl rfl) sub_n))))))) h
theorem bX11_markets_152 {κ : gK} {M : MM} {Q : Int32 → MM → Prop} (l1 : Int32) (l2 : Int32) (l4 : Int32) (s0 : Int32)
    (h : G κ mX11_markets 72 [.ref 119, .int l1, .int l2, .int s0, .int (l4 + 1), .null, .null] [] M Q) :
    G κ mX11_markets 152 [.ref 119, .int l1, .int l2, .null, .int l4, .null, .null] [.int s0] M Q := by
  refine g_istore_n (i := 3) (L' := [.ref 119, .int l1, .int l2, .int s0, .int l4, .null, .null]) dX11_markets_152 rfl (Nat.le_of_ble_eq_true rfl) rfl rfl ?_
  refine g_iinc (v := (l4 + 1)) (L' := [.ref 119, .int l1, .int l2, .int s0, .int (l4 + 1), .null, .null]) dX11_markets_153 rfl rfl (Nat.le_of_ble_eq_true rfl) rfl rfl ?_
  refine g_goto (tgt := 72) dX11_markets_156 rfl ?_
  exact h
theorem eX11_markets {κ : gK} {M : MM} {Q : Int32 → MM → Prop} 
    (h : G κ mX11_markets 0 [.ref 119, .null, .null, .null, .null, .null, .null] [] M Q) : Cl κ mX11_markets [.ref 119] M Q := g_entry 6 pl_X11_markets (Nat.le_of_ble_eq_true rfl) (L := [.ref 119, .null, .null, .null, .null, .null, .null]) rfl (g_sub _ (sub_c (Or.inr rfl) (sub_c (Or.inr rfl) (sub_c (Or.inr rfl) (sub_c (Or.inr rfl) (sub_c (Or.inr rfl) (sub_c (Or.inr rfl) (sub_c (Or.inr rfl) sub_n))))))) h)
theorem dX11_market_0 : decode cX11_market 0 = .ok (.iload_n 1, 1) := by decide +kernel
theorem dX11_market_1 : decode cX11_market 1 = .ok (.iconst (-1), 1) := by decide +kernel
theorem dX11_market_2 : decode cX11_market 2 = .ok (.if_icmp .eq 14, 3) := by decide +kernel
theorem dX11_market_5 : decode cX11_market 5 = .ok (.aload_n 0, 1) := by decide +kernel
theorem dX11_market_6 : decode cX11_market 6 = .ok (.iload_n 1, 1) := by decide +kernel
theorem dX11_market_7 : decode cX11_market 7 = .ok (.invokevirtual 203, 3) := by decide +kernel
theorem dX11_market_10 : decode cX11_market 10 = .ok (.ifCond .ne 6, 3) := by decide +kernel
theorem dX11_market_13 : decode cX11_market 13 = .ok (.ldc 199, 2) := by decide +kernel
theorem dX11_market_15 : decode cX11_market 15 = .ok (.ireturn, 1) := by decide +kernel
theorem dX11_market_16 : decode cX11_market 16 = .ok (.aload_n 0, 1) := by decide +kernel
theorem dX11_market_17 : decode cX11_market 17 = .ok (.invokevirtual 257, 3) := by decide +kernel
theorem dX11_market_20 : decode cX11_market 20 = .ok (.iconst 1, 1) := by decide +kernel
theorem dX11_market_21 : decode cX11_market 21 = .ok (.aload_n 0, 1) := by decide +kernel
theorem dX11_market_22 : decode cX11_market 22 = .ok (.getfield 60, 3) := by decide +kernel
theorem dX11_market_25 : decode cX11_market 25 = .ok (.ishl, 1) := by decide +kernel
theorem dX11_market_26 : decode cX11_market 26 = .ok (.iconst 1, 1) := by decide +kernel
theorem dX11_market_27 : decode cX11_market 27 = .ok (.isub, 1) := by decide +kernel
theorem dX11_market_28 : decode cX11_market 28 = .ok (.istore_n 2, 1) := by decide +kernel
theorem dX11_market_29 : decode cX11_market 29 = .ok (.iload_n 1, 1) := by decide +kernel
theorem dX11_market_30 : decode cX11_market 30 = .ok (.iconst (-1), 1) := by decide +kernel
theorem dX11_market_31 : decode cX11_market 31 = .ok (.if_icmp .ne 10, 3) := by decide +kernel
theorem dX11_market_34 : decode cX11_market 34 = .ok (.aload_n 0, 1) := by decide +kernel
theorem dX11_market_35 : decode cX11_market 35 = .ok (.getfield 38, 3) := by decide +kernel
theorem dX11_market_38 : decode cX11_market 38 = .ok (.iload_n 2, 1) := by decide +kernel
theorem dX11_market_39 : decode cX11_market 39 = .ok (.iaload, 1) := by decide +kernel
theorem dX11_market_40 : decode cX11_market 40 = .ok (.ireturn, 1) := by decide +kernel
theorem dX11_market_41 : decode cX11_market 41 = .ok (.iconst (-1), 1) := by decide +kernel
theorem dX11_market_42 : decode cX11_market 42 = .ok (.istore_n 3, 1) := by decide +kernel
theorem dX11_market_43 : decode cX11_market 43 = .ok (.iconst 0, 1) := by decide +kernel
theorem dX11_market_44 : decode cX11_market 44 = .ok (.istore 4, 2) := by decide +kernel
theorem dX11_market_46 : decode cX11_market 46 = .ok (.iload 4, 2) := by decide +kernel
theorem dX11_market_48 : decode cX11_market 48 = .ok (.iload_n 1, 1) := by decide +kernel
theorem dX11_market_49 : decode cX11_market 49 = .ok (.if_icmp .gt 123, 3) := by decide +kernel
theorem dX11_market_52 : decode cX11_market 52 = .ok (.iconst (-1), 1) := by decide +kernel
theorem dX11_market_53 : decode cX11_market 53 = .ok (.istore_n 3, 1) := by decide +kernel
theorem dX11_market_54 : decode cX11_market 54 = .ok (.aload_n 0, 1) := by decide +kernel
theorem dX11_market_55 : decode cX11_market 55 = .ok (.getfield 60, 3) := by decide +kernel
theorem dX11_market_58 : decode cX11_market 58 = .ok (.iconst 1, 1) := by decide +kernel
theorem dX11_market_59 : decode cX11_market 59 = .ok (.isub, 1) := by decide +kernel
theorem dX11_market_60 : decode cX11_market 60 = .ok (.istore 5, 2) := by decide +kernel
theorem dX11_market_62 : decode cX11_market 62 = .ok (.iload 5, 2) := by decide +kernel
theorem dX11_market_64 : decode cX11_market 64 = .ok (.ifCond .lt 87, 3) := by decide +kernel
theorem dX11_market_67 : decode cX11_market 67 = .ok (.iload_n 2, 1) := by decide +kernel
theorem dX11_market_68 : decode cX11_market 68 = .ok (.iload 5, 2) := by decide +kernel
theorem dX11_market_70 : decode cX11_market 70 = .ok (.ishr, 1) := by decide +kernel
theorem dX11_market_71 : decode cX11_market 71 = .ok (.iconst 1, 1) := by decide +kernel
theorem dX11_market_72 : decode cX11_market 72 = .ok (.iand, 1) := by decide +kernel
theorem dX11_market_73 : decode cX11_market 73 = .ok (.iconst 1, 1) := by decide +kernel
theorem dX11_market_74 : decode cX11_market 74 = .ok (.if_icmp .ne 56, 3) := by decide +kernel
theorem dX11_market_77 : decode cX11_market 77 = .ok (.aload_n 0, 1) := by decide +kernel
theorem dX11_market_78 : decode cX11_market 78 = .ok (.iload 5, 2) := by decide +kernel
theorem dX11_market_80 : decode cX11_market 80 = .ok (.iload 4, 2) := by decide +kernel
theorem dX11_market_82 : decode cX11_market 82 = .ok (.invokevirtual 96, 3) := by decide +kernel
theorem dX11_market_85 : decode cX11_market 85 = .ok (.ifCond .eq 45, 3) := by decide +kernel
theorem dX11_market_88 : decode cX11_market 88 = .ok (.iconst 1, 1) := by decide +kernel
theorem dX11_market_89 : decode cX11_market 89 = .ok (.aload_n 0, 1) := by decide +kernel
theorem dX11_market_90 : decode cX11_market 90 = .ok (.getfield 38, 3) := by decide +kernel
theorem dX11_market_93 : decode cX11_market 93 = .ok (.sipush 256, 3) := by decide +kernel
theorem dX11_market_96 : decode cX11_market 96 = .ok (.iload 4, 2) := by decide +kernel
theorem dX11_market_98 : decode cX11_market 98 = .ok (.iconst 1, 1) := by decide +kernel
theorem dX11_market_99 : decode cX11_market 99 = .ok (.iadd, 1) := by decide +kernel
theorem dX11_market_100 : decode cX11_market 100 = .ok (.imul, 1) := by decide +kernel
theorem dX11_market_101 : decode cX11_market 101 = .ok (.iload_n 2, 1) := by decide +kernel
theorem dX11_market_102 : decode cX11_market 102 = .ok (.iconst 1, 1) := by decide +kernel
theorem dX11_market_103 : decode cX11_market 103 = .ok (.iload 5, 2) := by decide +kernel
theorem dX11_market_105 : decode cX11_market 105 = .ok (.ishl, 1) := by decide +kernel
theorem dX11_market_106 : decode cX11_market 106 = .ok (.ixor, 1) := by decide +kernel
theorem dX11_market_107 : decode cX11_market 107 = .ok (.iadd, 1) := by decide +kernel
theorem dX11_market_108 : decode cX11_market 108 = .ok (.iaload, 1) := by decide +kernel
theorem dX11_market_109 : decode cX11_market 109 = .ok (.iadd, 1) := by decide +kernel
theorem dX11_market_110 : decode cX11_market 110 = .ok (.aload_n 0, 1) := by decide +kernel
theorem dX11_market_111 : decode cX11_market 111 = .ok (.getfield 38, 3) := by decide +kernel
theorem dX11_market_114 : decode cX11_market 114 = .ok (.sipush 256, 3) := by decide +kernel
theorem dX11_market_117 : decode cX11_market 117 = .ok (.iload 4, 2) := by decide +kernel
theorem dX11_market_119 : decode cX11_market 119 = .ok (.imul, 1) := by decide +kernel
theorem dX11_market_120 : decode cX11_market 120 = .ok (.iload_n 2, 1) := by decide +kernel
theorem dX11_market_121 : decode cX11_market 121 = .ok (.iadd, 1) := by decide +kernel
theorem dX11_market_122 : decode cX11_market 122 = .ok (.iaload, 1) := by decide +kernel
theorem dX11_market_123 : decode cX11_market 123 = .ok (.if_icmp .ne 7, 3) := by decide +kernel
theorem dX11_market_126 : decode cX11_market 126 = .ok (.iconst 1, 1) := by decide +kernel
theorem dX11_market_127 : decode cX11_market 127 = .ok (.goto 4, 3) := by decide +kernel
theorem dX11_market_130 : decode cX11_market 130 = .ok (.iconst 0, 1) := by decide +kernel
theorem dX11_market_131 : decode cX11_market 131 = .ok (.istore 6, 2) := by decide +kernel
theorem dX11_market_133 : decode cX11_market 133 = .ok (.iload 6, 2) := by decide +kernel
theorem dX11_market_135 : decode cX11_market 135 = .ok (.ifCond .eq 8, 3) := by decide +kernel
theorem dX11_market_138 : decode cX11_market 138 = .ok (.iload 5, 2) := by decide +kernel
theorem dX11_market_140 : decode cX11_market 140 = .ok (.goto 4, 3) := by decide +kernel
theorem dX11_market_143 : decode cX11_market 143 = .ok (.iload_n 3, 1) := by decide +kernel
theorem dX11_market_144 : decode cX11_market 144 = .ok (.istore_n 3, 1) := by decide +kernel
theorem dX11_market_145 : decode cX11_market 145 = .ok (.iinc 5 (-1), 3) := by decide +kernel
theorem dX11_market_148 : decode cX11_market 148 = .ok (.goto (-86), 3) := by decide +kernel
theorem dX11_market_151 : decode cX11_market 151 = .ok (.iload_n 2, 1) := by decide +kernel
theorem dX11_market_152 : decode cX11_market 152 = .ok (.iload_n 3, 1) := by decide +kernel
theorem dX11_market_153 : decode cX11_market 153 = .ok (.iconst (-1), 1) := by decide +kernel
theorem dX11_market_154 : decode cX11_market 154 = .ok (.if_icmp .ne 7, 3) := by decide +kernel
theorem dX11_market_157 : decode cX11_market 157 = .ok (.iconst 0, 1) := by decide +kernel
theorem dX11_market_158 : decode cX11_market 158 = .ok (.goto 6, 3) := by decide +kernel
theorem dX11_market_161 : decode cX11_market 161 = .ok (.iconst 1, 1) := by decide +kernel
theorem dX11_market_162 : decode cX11_market 162 = .ok (.iload_n 3, 1) := by decide +kernel
theorem dX11_market_163 : decode cX11_market 163 = .ok (.ishl, 1) := by decide +kernel
theorem dX11_market_164 : decode cX11_market 164 = .ok (.ixor, 1) := by decide +kernel
theorem dX11_market_165 : decode cX11_market 165 = .ok (.istore_n 2, 1) := by decide +kernel
theorem dX11_market_166 : decode cX11_market 166 = .ok (.iinc 4 1, 3) := by decide +kernel
theorem dX11_market_169 : decode cX11_market 169 = .ok (.goto (-123), 3) := by decide +kernel
theorem dX11_market_172 : decode cX11_market 172 = .ok (.iload_n 3, 1) := by decide +kernel
theorem dX11_market_173 : decode cX11_market 173 = .ok (.ireturn, 1) := by decide +kernel
theorem bX11_market_0 {κ : gK} {M : MM} {Q : Int32 → MM → Prop} (l1 : Int32)
    (h : ((l1 = (-1 : Int32) → G κ mX11_market 16 [.ref 119, .int l1, .null, .null, .null, .null, .null] [] M Q) ∧ (¬ l1 = (-1 : Int32) → Cl κ mX11_isLayer [.ref 119, .int l1] M (fun r1 M1 => ((r1 = 0 → Q (-1000000001 : Int32) M1) ∧ (¬ r1 = 0 → G κ mX11_market 16 [.ref 119, .int l1, .null, .null, .null, .null, .null] [] M1 Q)))))) :
    G κ mX11_market 0 [.ref 119, .int l1, .null, .null, .null, .null, .null] [] M Q := by
  refine g_iload_n (i := 1) dX11_market_0 rfl rfl ?_
  refine g_iconst (v := (-1 : Int32)) dX11_market_1 (by decide) ?_
  refine g_icmp_eq (tgt := 16) dX11_market_2 rfl ⟨fun hc => ?_, fun hc => ?_⟩
  · replace h := h.1 hc
    exact h
  · replace h := h.2 hc
    refine g_aload_n (i := 0) dX11_market_5 rfl rfl ?_
    refine g_iload_n (i := 1) dX11_market_6 rfl rfl ?_
    refine gc_RX11_203 rfl (Nat.le_of_ble_eq_true rfl) dX11_market_7 sh_119 (Nat.le_of_ble_eq_true rfl) ?_
    refine Cl.mono h (fun r1 M1 h => ?_)
    refine g_if_ne (tgt := 16) dX11_market_10 rfl ⟨fun hc => ?_, fun hc => ?_⟩
    · replace h := h.1 hc
      refine g_ldc dX11_market_13 wt_984 ?_
      exact g_iret dX11_market_15 rfl h
    · replace h := h.2 hc
      exact h
theorem bX11_market_16 {κ : gK} {M : MM} {Q : Int32 → MM → Prop} (l1 : Int32)
    (h : Cl κ mX11_markets [.ref 119] M (fun _ M1 => ∀ v2 : Int32, v2 = ((jshl (1 : Int32) (M1 119 2)) - (1 : Int32)) → (((l1 = (-1 : Int32) → (vp_in v2 2560) ∧ (Q (M1 128 (v2).toNatClampNeg) M1)) ∧ (¬ l1 = (-1 : Int32) → G κ mX11_market 46 [.ref 119, .int l1, .int v2, .int (-1 : Int32), .int (0 : Int32), .null, .null] [] M1 Q))))) :
    G κ mX11_market 16 [.ref 119, .int l1, .null, .null, .null, .null, .null] [] M Q := by
  refine g_aload_n (i := 0) dX11_market_16 rfl rfl ?_
  refine gc_RX11_257 rfl (Nat.le_of_ble_eq_true rfl) dX11_market_17 sh_119 (Nat.le_of_ble_eq_true rfl) ?_
  refine Cl.mono h (fun r1 M1 h => ?_)
  refine g_iconst (v := (1 : Int32)) dX11_market_20 (by decide) ?_
  refine g_aload_n (i := 0) dX11_market_21 rfl rfl ?_
  refine gf_RX11_60 rfl dX11_market_22 sh_119 ?_
  refine g_ishl dX11_market_25 ?_
  refine g_iconst (v := (1 : Int32)) dX11_market_26 (by decide) ?_
  refine g_isub dX11_market_27 ?_
  refine lv_nm (fun v2 hn2 => ?_) (x := ((jshl (1 : Int32) (M1 119 2)) - (1 : Int32)))
  replace h := h v2 hn2
  refine g_istore_n (i := 2) (L' := [.ref 119, .int l1, .int v2, .null, .null, .null, .null]) dX11_market_28 rfl (Nat.le_of_ble_eq_true rfl) rfl rfl ?_
  refine g_iload_n (i := 1) dX11_market_29 rfl rfl ?_
  refine g_iconst (v := (-1 : Int32)) dX11_market_30 (by decide) ?_
  refine g_icmp_ne (tgt := 41) dX11_market_31 rfl ⟨fun hc => ?_, fun hc => ?_⟩
  · replace h := h.1 hc
    refine g_aload_n (i := 0) dX11_market_34 rfl rfl ?_
    refine gf_RX11_38 rfl dX11_market_35 sh_119 ?_
    refine g_iload_n (i := 2) dX11_market_38 rfl rfl ?_
    have hv1 := h.1; replace h := h.2
    refine g_iald dX11_market_39 sh_128 hv1 ?_
    exact g_iret dX11_market_40 rfl h
  · replace h := h.2 hc
    refine g_iconst (v := (-1 : Int32)) dX11_market_41 (by decide) ?_
    refine g_istore_n (i := 3) (L' := [.ref 119, .int l1, .int v2, .int (-1 : Int32), .null, .null, .null]) dX11_market_42 rfl (Nat.le_of_ble_eq_true rfl) rfl rfl ?_
    refine g_iconst (v := (0 : Int32)) dX11_market_43 (by decide) ?_
    refine g_istore (i := 4) (L' := [.ref 119, .int l1, .int v2, .int (-1 : Int32), .int (0 : Int32), .null, .null]) dX11_market_44 (Nat.le_of_ble_eq_true rfl) rfl rfl ?_
    exact h
theorem bX11_market_46 {κ : gK} {M : MM} {Q : Int32 → MM → Prop} (l1 : Int32) (l2 : Int32) (l3 : Int32) (l4 : Int32)
    (h : ((l1 < l4 → Q l3 M) ∧ (¬ l1 < l4 → ∀ v1 : Int32, v1 = ((M 119 2) - (1 : Int32)) → (G κ mX11_market 62 [.ref 119, .int l1, .int l2, .int (-1 : Int32), .int l4, .int v1, .null] [] M Q)))) :
    G κ mX11_market 46 [.ref 119, .int l1, .int l2, .int l3, .int l4, .null, .null] [] M Q := by
  refine g_iload (i := 4) dX11_market_46 rfl ?_
  refine g_iload_n (i := 1) dX11_market_48 rfl rfl ?_
  refine g_icmp_gt (tgt := 172) dX11_market_49 rfl ⟨fun hc => ?_, fun hc => ?_⟩
  · replace h := h.1 hc
    refine g_iload_n (i := 3) dX11_market_172 rfl rfl ?_
    exact g_iret dX11_market_173 rfl h
  · replace h := h.2 hc
    refine g_iconst (v := (-1 : Int32)) dX11_market_52 (by decide) ?_
    refine g_istore_n (i := 3) (L' := [.ref 119, .int l1, .int l2, .int (-1 : Int32), .int l4, .null, .null]) dX11_market_53 rfl (Nat.le_of_ble_eq_true rfl) rfl rfl ?_
    refine g_aload_n (i := 0) dX11_market_54 rfl rfl ?_
    refine gf_RX11_60 rfl dX11_market_55 sh_119 ?_
    refine g_iconst (v := (1 : Int32)) dX11_market_58 (by decide) ?_
    refine g_isub dX11_market_59 ?_
    refine lv_nm (fun v1 hn1 => ?_) (x := ((M 119 2) - (1 : Int32)))
    replace h := h v1 hn1
    refine g_istore (i := 5) (L' := [.ref 119, .int l1, .int l2, .int (-1 : Int32), .int l4, .int v1, .null]) dX11_market_60 (Nat.le_of_ble_eq_true rfl) rfl rfl ?_
    exact h
theorem bX11_market_62 {κ : gK} {M : MM} {Q : Int32 → MM → Prop} (l1 : Int32) (l2 : Int32) (l3 : Int32) (l4 : Int32) (l5 : Int32)
    (h : ((l5 < 0 → ((l3 = (-1 : Int32) → G κ mX11_market 164 [.ref 119, .int l1, .null, .int l3, .int l4, .null, .null] [.int (0 : Int32), .int l2] M Q) ∧ (¬ l3 = (-1 : Int32) → G κ mX11_market 164 [.ref 119, .int l1, .null, .int l3, .int l4, .null, .null] [.int (jshl (1 : Int32) l3), .int l2] M Q))) ∧ (¬ l5 < 0 → ((((jshr l2 l5) &&& (1 : Int32)) = (1 : Int32) → Cl κ mX11_isOn [.ref 119, .int l5, .int l4] M (fun r1 M1 => ((r1 = 0 → G κ mX11_market 130 [.ref 119, .int l1, .int l2, .int l3, .int l4, .int l5, .null] [] M1 Q) ∧ (¬ r1 = 0 → (vp_in (((256 : Int32) * (l4 + (1 : Int32))) + (l2 ^^^ (jshl (1 : Int32) l5))) 2560) ∧ ((vp_in (((256 : Int32) * l4) + l2) 2560) ∧ (((((1 : Int32) + (M1 128 ((((256 : Int32) * (l4 + (1 : Int32))) + (l2 ^^^ (jshl (1 : Int32) l5)))).toNatClampNeg)) = (M1 128 ((((256 : Int32) * l4) + l2)).toNatClampNeg) → G κ mX11_market 131 [.ref 119, .int l1, .int l2, .int l3, .int l4, .int l5, .null] [.int (1 : Int32)] M1 Q) ∧ (¬ ((1 : Int32) + (M1 128 ((((256 : Int32) * (l4 + (1 : Int32))) + (l2 ^^^ (jshl (1 : Int32) l5)))).toNatClampNeg)) = (M1 128 ((((256 : Int32) * l4) + l2)).toNatClampNeg) → G κ mX11_market 130 [.ref 119, .int l1, .int l2, .int l3, .int l4, .int l5, .null] [] M1 Q)))))))) ∧ (¬ ((jshr l2 l5) &&& (1 : Int32)) = (1 : Int32) → G κ mX11_market 130 [.ref 119, .int l1, .int l2, .int l3, .int l4, .int l5, .null] [] M Q))))) :
    G κ mX11_market 62 [.ref 119, .int l1, .int l2, .int l3, .int l4, .int l5, .null] [] M Q := by
  refine g_iload (i := 5) dX11_market_62 rfl ?_
  refine g_if_lt (tgt := 151) dX11_market_64 rfl ⟨fun hc => ?_, fun hc => ?_⟩
  · replace h := h.1 hc
    refine g_iload_n (i := 2) dX11_market_151 rfl rfl ?_
    refine g_iload_n (i := 3) dX11_market_152 rfl rfl ?_
    refine g_iconst (v := (-1 : Int32)) dX11_market_153 (by decide) ?_
    refine g_icmp_ne (tgt := 161) dX11_market_154 rfl ⟨fun hc => ?_, fun hc => ?_⟩
    · replace h := h.1 hc
      refine g_iconst (v := (0 : Int32)) dX11_market_157 (by decide) ?_
      refine g_goto (tgt := 164) dX11_market_158 rfl ?_
      exact g_sub _ (sub_c (Or.inr rfl) (sub_c (Or.inr rfl) (sub_c (Or.inl rfl) (sub_c (Or.inr rfl) (sub_c (Or.inr rfl) (sub_c (Or.inl rfl) (sub_c (Or.inr rfl) sub_n))))))) h
    · replace h := h.2 hc
      refine g_iconst (v := (1 : Int32)) dX11_market_161 (by decide) ?_
      refine g_iload_n (i := 3) dX11_market_162 rfl rfl ?_
      refine g_ishl dX11_market_163 ?_
      exact g_sub _ (sub_c (Or.inr rfl) (sub_c (Or.inr rfl) (sub_c (Or.inl rfl) (sub_c (Or.inr rfl) (sub_c (Or.inr rfl) (sub_c (Or.inl rfl) (sub_c (Or.inr rfl) sub_n))))))) h
  · replace h := h.2 hc
    refine g_iload_n (i := 2) dX11_market_67 rfl rfl ?_
    refine g_iload (i := 5) dX11_market_68 rfl ?_
    refine g_ishr dX11_market_70 ?_
    refine g_iconst (v := (1 : Int32)) dX11_market_71 (by decide) ?_
    refine g_iand dX11_market_72 ?_
    refine g_iconst (v := (1 : Int32)) dX11_market_73 (by decide) ?_
    refine g_icmp_ne (tgt := 130) dX11_market_74 rfl ⟨fun hc => ?_, fun hc => ?_⟩
    · replace h := h.1 hc
      refine g_aload_n (i := 0) dX11_market_77 rfl rfl ?_
      refine g_iload (i := 5) dX11_market_78 rfl ?_
      refine g_iload (i := 4) dX11_market_80 rfl ?_
      refine gc_RX11_96 rfl (Nat.le_of_ble_eq_true rfl) dX11_market_82 sh_119 (Nat.le_of_ble_eq_true rfl) ?_
      refine Cl.mono h (fun r1 M1 h => ?_)
      refine g_if_eq (tgt := 130) dX11_market_85 rfl ⟨fun hc => ?_, fun hc => ?_⟩
      · replace h := h.1 hc
        exact h
      · replace h := h.2 hc
        refine g_iconst (v := (1 : Int32)) dX11_market_88 (by decide) ?_
        refine g_aload_n (i := 0) dX11_market_89 rfl rfl ?_
        refine gf_RX11_38 rfl dX11_market_90 sh_119 ?_
        refine g_sipush (v := (256 : Int32)) dX11_market_93 (by decide) ?_
        refine g_iload (i := 4) dX11_market_96 rfl ?_
        refine g_iconst (v := (1 : Int32)) dX11_market_98 (by decide) ?_
        refine g_iadd dX11_market_99 ?_
        refine g_imul dX11_market_100 ?_
        refine g_iload_n (i := 2) dX11_market_101 rfl rfl ?_
        refine g_iconst (v := (1 : Int32)) dX11_market_102 (by decide) ?_
        refine g_iload (i := 5) dX11_market_103 rfl ?_
        refine g_ishl dX11_market_105 ?_
        refine g_ixor dX11_market_106 ?_
        refine g_iadd dX11_market_107 ?_
        have hv1 := h.1; replace h := h.2
        refine g_iald dX11_market_108 sh_128 hv1 ?_
        refine g_iadd dX11_market_109 ?_
        refine g_aload_n (i := 0) dX11_market_110 rfl rfl ?_
        refine gf_RX11_38 rfl dX11_market_111 sh_119 ?_
        refine g_sipush (v := (256 : Int32)) dX11_market_114 (by decide) ?_
        refine g_iload (i := 4) dX11_market_117 rfl ?_
        refine g_imul dX11_market_119 ?_
        refine g_iload_n (i := 2) dX11_market_120 rfl rfl ?_
        refine g_iadd dX11_market_121 ?_
        have hv2 := h.1; replace h := h.2
        refine g_iald dX11_market_122 sh_128 hv2 ?_
        refine g_icmp_ne (tgt := 130) dX11_market_123 rfl ⟨fun hc => ?_, fun hc => ?_⟩
        · replace h := h.1 hc
          refine g_iconst (v := (1 : Int32)) dX11_market_126 (by decide) ?_
          refine g_goto (tgt := 131) dX11_market_127 rfl ?_
          exact h
        · replace h := h.2 hc
          exact h
    · replace h := h.2 hc
      exact h
theorem bX11_market_130 {κ : gK} {M : MM} {Q : Int32 → MM → Prop} (l1 : Int32) (l2 : Int32) (l3 : Int32) (l4 : Int32) (l5 : Int32)
    (h : G κ mX11_market 131 [.ref 119, .int l1, .int l2, .int l3, .int l4, .int l5, .null] [.int (0 : Int32)] M Q) :
    G κ mX11_market 130 [.ref 119, .int l1, .int l2, .int l3, .int l4, .int l5, .null] [] M Q := by
  refine g_iconst (v := (0 : Int32)) dX11_market_130 (by decide) ?_
  exact h
theorem bX11_market_131 {κ : gK} {M : MM} {Q : Int32 → MM → Prop} (l1 : Int32) (l2 : Int32) (l3 : Int32) (l4 : Int32) (l5 : Int32) (s0 : Int32)
    (h : ((s0 = 0 → G κ mX11_market 144 [.ref 119, .int l1, .int l2, .null, .int l4, .int l5, .null] [.int l3] M Q) ∧ (¬ s0 = 0 → G κ mX11_market 144 [.ref 119, .int l1, .int l2, .null, .int l4, .int l5, .null] [.int l5] M Q))) :
    G κ mX11_market 131 [.ref 119, .int l1, .int l2, .int l3, .int l4, .int l5, .null] [.int s0] M Q := by
  refine g_istore (i := 6) (L' := [.ref 119, .int l1, .int l2, .int l3, .int l4, .int l5, .int s0]) dX11_market_131 (Nat.le_of_ble_eq_true rfl) rfl rfl ?_
  refine g_iload (i := 6) dX11_market_133 rfl ?_
  refine g_if_eq (tgt := 143) dX11_market_135 rfl ⟨fun hc => ?_, fun hc => ?_⟩
  · replace h := h.1 hc
    refine g_iload_n (i := 3) dX11_market_143 rfl rfl ?_
    exact g_sub _ (sub_c (Or.inr rfl) (sub_c (Or.inr rfl) (sub_c (Or.inr rfl) (sub_c (Or.inl rfl) (sub_c (Or.inr rfl) (sub_c (Or.inr rfl) (sub_c (Or.inl rfl) sub_n))))))) h
  · replace h := h.2 hc
    refine g_iload (i := 5) dX11_market_138 rfl ?_
    refine g_goto (tgt := 144) dX11_market_140 rfl ?_
    exact g_sub _ (sub_c (Or.inr rfl) (sub_c (Or.inr rfl) (sub_c (Or.inr rfl) (sub_c (Or.inl rfl) (sub_c (Or.inr rfl) (sub_c (Or.inr rfl) (sub_c (Or.inl rfl) sub_n))))))) h
theorem bX11_market_144 {κ : gK} {M : MM} {Q : Int32 → MM → Prop} (l1 : Int32) (l2 : Int32) (l4 : Int32) (l5 : Int32) (s0 : Int32)
    (h : G κ mX11_market 62 [.ref 119, .int l1, .int l2, .int s0, .int l4, .int (l5 + (-1)), .null] [] M Q) :
    G κ mX11_market 144 [.ref 119, .int l1, .int l2, .null, .int l4, .int l5, .null] [.int s0] M Q := by
  refine g_istore_n (i := 3) (L' := [.ref 119, .int l1, .int l2, .int s0, .int l4, .int l5, .null]) dX11_market_144 rfl (Nat.le_of_ble_eq_true rfl) rfl rfl ?_
  refine g_iinc (v := (l5 + (-1))) (L' := [.ref 119, .int l1, .int l2, .int s0, .int l4, .int (l5 + (-1)), .null]) dX11_market_145 rfl rfl (Nat.le_of_ble_eq_true rfl) rfl rfl ?_
  refine g_goto (tgt := 62) dX11_market_148 rfl ?_
  exact h
theorem bX11_market_164 {κ : gK} {M : MM} {Q : Int32 → MM → Prop} (l1 : Int32) (l3 : Int32) (l4 : Int32) (s0 : Int32) (s1 : Int32)
    (h : G κ mX11_market 46 [.ref 119, .int l1, .int (s1 ^^^ s0), .int l3, .int (l4 + 1), .null, .null] [] M Q) :
    G κ mX11_market 164 [.ref 119, .int l1, .null, .int l3, .int l4, .null, .null] [.int s0, .int s1] M Q := by
  refine g_ixor dX11_market_164 ?_
  refine g_istore_n (i := 2) (L' := [.ref 119, .int l1, .int (s1 ^^^ s0), .int l3, .int l4, .null, .null]) dX11_market_165 rfl (Nat.le_of_ble_eq_true rfl) rfl rfl ?_
  refine g_iinc (v := (l4 + 1)) (L' := [.ref 119, .int l1, .int (s1 ^^^ s0), .int l3, .int (l4 + 1), .null, .null]) dX11_market_166 rfl rfl (Nat.le_of_ble_eq_true rfl) rfl rfl ?_
  refine g_goto (tgt := 46) dX11_market_169 rfl ?_
  exact h
theorem eX11_market {κ : gK} {M : MM} {Q : Int32 → MM → Prop} (l1 : Int32)
    (h : G κ mX11_market 0 [.ref 119, .int l1, .null, .null, .null, .null, .null] [] M Q) : Cl κ mX11_market [.ref 119, .int l1] M Q := g_entry 5 pl_X11_market (Nat.le_of_ble_eq_true rfl) (L := [.ref 119, .int l1, .null, .null, .null, .null, .null]) rfl (g_sub _ (sub_c (Or.inr rfl) (sub_c (Or.inr rfl) (sub_c (Or.inr rfl) (sub_c (Or.inr rfl) (sub_c (Or.inr rfl) (sub_c (Or.inr rfl) (sub_c (Or.inr rfl) sub_n))))))) h)
