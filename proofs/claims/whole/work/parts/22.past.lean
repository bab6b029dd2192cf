theorem dX0_add_0 : decode cX0_add 0 = .ok (.aload_n 0, 1) := by decide +kernel
theorem dX0_add_1 : decode cX0_add 1 = .ok (.getfield 22, 3) := by decide +kernel
theorem dX0_add_4 : decode cX0_add 4 = .ok (.bipush 15, 2) := by decide +kernel
theorem dX0_add_6 : decode cX0_add 6 = .ok (.if_icmp .ge 43, 3) := by decide +kernel
theorem dX0_add_9 : decode cX0_add 9 = .ok (.aload_n 0, 1) := by decide +kernel
theorem dX0_add_10 : decode cX0_add 10 = .ok (.getfield 9, 3) := by decide +kernel
theorem dX0_add_13 : decode cX0_add 13 = .ok (.aload_n 0, 1) := by decide +kernel
theorem dX0_add_14 : decode cX0_add 14 = .ok (.getfield 22, 3) := by decide +kernel
theorem dX0_add_17 : decode cX0_add 17 = .ok (.iload_n 1, 1) := by decide +kernel
theorem dX0_add_18 : decode cX0_add 18 = .ok (.iastore, 1) := by decide +kernel
theorem dX0_add_19 : decode cX0_add 19 = .ok (.aload_n 0, 1) := by decide +kernel
theorem dX0_add_20 : decode cX0_add 20 = .ok (.getfield 15, 3) := by decide +kernel
theorem dX0_add_23 : decode cX0_add 23 = .ok (.aload_n 0, 1) := by decide +kernel
theorem dX0_add_24 : decode cX0_add 24 = .ok (.getfield 22, 3) := by decide +kernel
theorem dX0_add_27 : decode cX0_add 27 = .ok (.iload_n 2, 1) := by decide +kernel
theorem dX0_add_28 : decode cX0_add 28 = .ok (.iastore, 1) := by decide +kernel
theorem dX0_add_29 : decode cX0_add 29 = .ok (.aload_n 0, 1) := by decide +kernel
theorem dX0_add_30 : decode cX0_add 30 = .ok (.getfield 18, 3) := by decide +kernel
theorem dX0_add_33 : decode cX0_add 33 = .ok (.aload_n 0, 1) := by decide +kernel
theorem dX0_add_34 : decode cX0_add 34 = .ok (.getfield 22, 3) := by decide +kernel
theorem dX0_add_37 : decode cX0_add 37 = .ok (.iload_n 3, 1) := by decide +kernel
theorem dX0_add_38 : decode cX0_add 38 = .ok (.bastore, 1) := by decide +kernel
theorem dX0_add_39 : decode cX0_add 39 = .ok (.aload_n 0, 1) := by decide +kernel
theorem dX0_add_40 : decode cX0_add 40 = .ok (.dup, 1) := by decide +kernel
theorem dX0_add_41 : decode cX0_add 41 = .ok (.getfield 22, 3) := by decide +kernel
theorem dX0_add_44 : decode cX0_add 44 = .ok (.iconst 1, 1) := by decide +kernel
theorem dX0_add_45 : decode cX0_add 45 = .ok (.iadd, 1) := by decide +kernel
theorem dX0_add_46 : decode cX0_add 46 = .ok (.putfield 22, 3) := by decide +kernel
theorem dX0_add_49 : decode cX0_add 49 = .ok (.aload_n 0, 1) := by decide +kernel
theorem dX0_add_50 : decode cX0_add 50 = .ok (.getfield 22, 3) := by decide +kernel
theorem dX0_add_53 : decode cX0_add 53 = .ok (.ireturn, 1) := by decide +kernel
theorem bX0_add_0 {κ : gK} {M : MM} {Q : Int32 → MM → Prop} (l1 : Int32) (l2 : Int32) (l3 : Int32)
    (h : (((15 : Int32) ≤ (M 115 3) → G κ mX0_add 49 [.ref 115, .null, .null, .null] [] M Q) ∧ (¬ (15 : Int32) ≤ (M 115 3) → (vp_in (M 115 3) 15) ∧ (∀ M1 : MM, M1 = (pt M 116 ((M 115 3)).toNatClampNeg l1) → ((vp_in (M1 115 3) 15) ∧ (∀ M2 : MM, M2 = (pt M1 117 ((M1 115 3)).toNatClampNeg l2) → ((vp_in (M2 115 3) 15) ∧ (∀ M3 : MM, M3 = (pt M2 118 ((M2 115 3)).toNatClampNeg (vp_nar .boolean l3)) → (∀ M4 : MM, M4 = (pt M3 115 3 ((M3 115 3) + (1 : Int32))) → (G κ mX0_add 49 [.ref 115, .null, .null, .null] [] M4 Q)))))))))) :
    G κ mX0_add 0 [.ref 115, .int l1, .int l2, .int l3] [] M Q := by
  refine g_aload_n (i := 0) dX0_add_0 rfl rfl ?_
  refine gf_RX0_22 rfl dX0_add_1 sh_115 ?_
  refine g_bipush (v := (15 : Int32)) dX0_add_4 (by decide) ?_
  refine g_icmp_ge (tgt := 49) dX0_add_6 rfl ⟨fun hc => ?_, fun hc => ?_⟩
  · replace h := h.1 hc
    exact g_sub _ (sub_c (Or.inr rfl) (sub_c (Or.inl rfl) (sub_c (Or.inl rfl) (sub_c (Or.inl rfl) sub_n)))) h
  · replace h := h.2 hc
    refine g_aload_n (i := 0) dX0_add_9 rfl rfl ?_
    refine gf_RX0_9 rfl dX0_add_10 sh_115 ?_
    refine g_aload_n (i := 0) dX0_add_13 rfl rfl ?_
    refine gf_RX0_22 rfl dX0_add_14 sh_115 ?_
    refine g_iload_n (i := 1) dX0_add_17 rfl rfl ?_
    have hv1 := h.1; replace h := h.2
    refine g_iastP dX0_add_18 sh_116 hv1 ?_
    refine g_nmM (fun M1 hM1 => ?_); replace h := h M1 hM1
    refine g_aload_n (i := 0) dX0_add_19 rfl rfl ?_
    refine gf_RX0_15 rfl dX0_add_20 sh_115 ?_
    refine g_aload_n (i := 0) dX0_add_23 rfl rfl ?_
    refine gf_RX0_22 rfl dX0_add_24 sh_115 ?_
    refine g_iload_n (i := 2) dX0_add_27 rfl rfl ?_
    have hv2 := h.1; replace h := h.2
    refine g_iastP dX0_add_28 sh_117 hv2 ?_
    refine g_nmM (fun M2 hM2 => ?_); replace h := h M2 hM2
    refine g_aload_n (i := 0) dX0_add_29 rfl rfl ?_
    refine gf_RX0_18 rfl dX0_add_30 sh_115 ?_
    refine g_aload_n (i := 0) dX0_add_33 rfl rfl ?_
    refine gf_RX0_22 rfl dX0_add_34 sh_115 ?_
    refine g_iload_n (i := 3) dX0_add_37 rfl rfl ?_
    have hv3 := h.1; replace h := h.2
    refine g_zastP dX0_add_38 sh_118 hv3 ?_
    refine g_nmM (fun M3 hM3 => ?_); replace h := h M3 hM3
    refine g_aload_n (i := 0) dX0_add_39 rfl rfl ?_
    refine g_dup dX0_add_40 rfl ?_
    refine gf_RX0_22 rfl dX0_add_41 sh_115 ?_
    refine g_iconst (v := (1 : Int32)) dX0_add_44 (by decide) ?_
    refine g_iadd dX0_add_45 ?_
    refine gp_RX0_22 rfl dX0_add_46 sh_115 ?_
    refine g_nmM (fun M4 hM4 => ?_); replace h := h M4 hM4
    exact g_sub _ (sub_c (Or.inr rfl) (sub_c (Or.inl rfl) (sub_c (Or.inl rfl) (sub_c (Or.inl rfl) sub_n)))) h
theorem bX0_add_49 {κ : gK} {M : MM} {Q : Int32 → MM → Prop} 
    (h : Q (M 115 3) M) :
    G κ mX0_add 49 [.ref 115, .null, .null, .null] [] M Q := by
  refine g_aload_n (i := 0) dX0_add_49 rfl rfl ?_
  refine gf_RX0_22 rfl dX0_add_50 sh_115 ?_
  exact g_iret dX0_add_53 rfl h
theorem eX0_add {κ : gK} {M : MM} {Q : Int32 → MM → Prop} (l1 : Int32) (l2 : Int32) (l3 : Int32)
    (h : G κ mX0_add 0 [.ref 115, .int l1, .int l2, .int l3] [] M Q) : Cl κ mX0_add [.ref 115, .int l1, .int l2, .int l3] M Q := g_entry 0 pl_X0_add (Nat.le_of_ble_eq_true rfl) (L := [.ref 115, .int l1, .int l2, .int l3]) rfl (g_sub _ (sub_c (Or.inr rfl) (sub_c (Or.inr rfl) (sub_c (Or.inr rfl) (sub_c (Or.inr rfl) sub_n)))) h)
theorem dX0_firstWrong_0 : decode cX0_firstWrong 0 = .ok (.iconst 0, 1) := by decide +kernel
theorem dX0_firstWrong_1 : decode cX0_firstWrong 1 = .ok (.istore_n 2, 1) := by decide +kernel
theorem dX0_firstWrong_2 : decode cX0_firstWrong 2 = .ok (.iload_n 2, 1) := by decide +kernel
theorem dX0_firstWrong_3 : decode cX0_firstWrong 3 = .ok (.aload_n 0, 1) := by decide +kernel
theorem dX0_firstWrong_4 : decode cX0_firstWrong 4 = .ok (.getfield 22, 3) := by decide +kernel
theorem dX0_firstWrong_7 : decode cX0_firstWrong 7 = .ok (.if_icmp .ge 50, 3) := by decide +kernel
theorem dX0_firstWrong_10 : decode cX0_firstWrong 10 = .ok (.aload_n 1, 1) := by decide +kernel
theorem dX0_firstWrong_11 : decode cX0_firstWrong 11 = .ok (.getfield 26, 3) := by decide +kernel
theorem dX0_firstWrong_14 : decode cX0_firstWrong 14 = .ok (.aload_n 0, 1) := by decide +kernel
theorem dX0_firstWrong_15 : decode cX0_firstWrong 15 = .ok (.getfield 9, 3) := by decide +kernel
theorem dX0_firstWrong_18 : decode cX0_firstWrong 18 = .ok (.iload_n 2, 1) := by decide +kernel
theorem dX0_firstWrong_19 : decode cX0_firstWrong 19 = .ok (.iaload, 1) := by decide +kernel
theorem dX0_firstWrong_20 : decode cX0_firstWrong 20 = .ok (.iaload, 1) := by decide +kernel
theorem dX0_firstWrong_21 : decode cX0_firstWrong 21 = .ok (.iconst 1, 1) := by decide +kernel
theorem dX0_firstWrong_22 : decode cX0_firstWrong 22 = .ok (.aload_n 0, 1) := by decide +kernel
theorem dX0_firstWrong_23 : decode cX0_firstWrong 23 = .ok (.getfield 15, 3) := by decide +kernel
theorem dX0_firstWrong_26 : decode cX0_firstWrong 26 = .ok (.iload_n 2, 1) := by decide +kernel
theorem dX0_firstWrong_27 : decode cX0_firstWrong 27 = .ok (.iaload, 1) := by decide +kernel
theorem dX0_firstWrong_28 : decode cX0_firstWrong 28 = .ok (.ishl, 1) := by decide +kernel
theorem dX0_firstWrong_29 : decode cX0_firstWrong 29 = .ok (.iand, 1) := by decide +kernel
theorem dX0_firstWrong_30 : decode cX0_firstWrong 30 = .ok (.ifCond .eq 7, 3) := by decide +kernel
theorem dX0_firstWrong_33 : decode cX0_firstWrong 33 = .ok (.iconst 1, 1) := by decide +kernel
theorem dX0_firstWrong_34 : decode cX0_firstWrong 34 = .ok (.goto 4, 3) := by decide +kernel
theorem dX0_firstWrong_37 : decode cX0_firstWrong 37 = .ok (.iconst 0, 1) := by decide +kernel
theorem dX0_firstWrong_38 : decode cX0_firstWrong 38 = .ok (.istore_n 3, 1) := by decide +kernel
theorem dX0_firstWrong_39 : decode cX0_firstWrong 39 = .ok (.iload_n 3, 1) := by decide +kernel
theorem dX0_firstWrong_40 : decode cX0_firstWrong 40 = .ok (.aload_n 0, 1) := by decide +kernel
theorem dX0_firstWrong_41 : decode cX0_firstWrong 41 = .ok (.getfield 18, 3) := by decide +kernel
theorem dX0_firstWrong_44 : decode cX0_firstWrong 44 = .ok (.iload_n 2, 1) := by decide +kernel
theorem dX0_firstWrong_45 : decode cX0_firstWrong 45 = .ok (.baload, 1) := by decide +kernel
theorem dX0_firstWrong_46 : decode cX0_firstWrong 46 = .ok (.if_icmp .eq 5, 3) := by decide +kernel
theorem dX0_firstWrong_49 : decode cX0_firstWrong 49 = .ok (.iload_n 2, 1) := by decide +kernel
theorem dX0_firstWrong_50 : decode cX0_firstWrong 50 = .ok (.ireturn, 1) := by decide +kernel
theorem dX0_firstWrong_51 : decode cX0_firstWrong 51 = .ok (.iinc 2 1, 3) := by decide +kernel
theorem dX0_firstWrong_54 : decode cX0_firstWrong 54 = .ok (.goto (-52), 3) := by decide +kernel
theorem dX0_firstWrong_57 : decode cX0_firstWrong 57 = .ok (.iconst (-1), 1) := by decide +kernel
theorem dX0_firstWrong_58 : decode cX0_firstWrong 58 = .ok (.ireturn, 1) := by decide +kernel
theorem bX0_firstWrong_0 {κ : gK} {M : MM} {Q : Int32 → MM → Prop} (o1 : Nat) (ho1 : stO o1)
    (h : G κ mX0_firstWrong 2 [.ref 115, .ref o1, .int (0 : Int32), .null] [] M Q) :
    G κ mX0_firstWrong 0 [.ref 115, .ref o1, .null, .null] [] M Q := by
  refine g_iconst (v := (0 : Int32)) dX0_firstWrong_0 (by decide) ?_
  refine g_istore_n (i := 2) (L' := [.ref 115, .ref o1, .int (0 : Int32), .null]) dX0_firstWrong_1 rfl (Nat.le_of_ble_eq_true rfl) rfl rfl ?_
  exact h
theorem bX0_firstWrong_2 {κ : gK} {M : MM} {Q : Int32 → MM → Prop} (o1 : Nat) (ho1 : stO o1) (l2 : Int32)
    (h : (((M 115 3) ≤ l2 → Q (-1 : Int32) M) ∧ (¬ (M 115 3) ≤ l2 → (vp_in l2 15) ∧ ((vp_in (M 116 (l2).toNatClampNeg) 8) ∧ (((((M (o1 + 1) ((M 116 (l2).toNatClampNeg)).toNatClampNeg) &&& (jshl (1 : Int32) (M 117 (l2).toNatClampNeg))) = 0 → G κ mX0_firstWrong 38 [.ref 115, .ref o1, .int l2, .null] [.int (0 : Int32)] M Q) ∧ (¬ ((M (o1 + 1) ((M 116 (l2).toNatClampNeg)).toNatClampNeg) &&& (jshl (1 : Int32) (M 117 (l2).toNatClampNeg))) = 0 → G κ mX0_firstWrong 38 [.ref 115, .ref o1, .int l2, .null] [.int (1 : Int32)] M Q))))))) :
    G κ mX0_firstWrong 2 [.ref 115, .ref o1, .int l2, .null] [] M Q := by
  refine g_iload_n (i := 2) dX0_firstWrong_2 rfl rfl ?_
  refine g_aload_n (i := 0) dX0_firstWrong_3 rfl rfl ?_
  refine gf_RX0_22 rfl dX0_firstWrong_4 sh_115 ?_
  refine g_icmp_ge (tgt := 57) dX0_firstWrong_7 rfl ⟨fun hc => ?_, fun hc => ?_⟩
  · replace h := h.1 hc
    refine g_iconst (v := (-1 : Int32)) dX0_firstWrong_57 (by decide) ?_
    exact g_iret dX0_firstWrong_58 rfl h
  · replace h := h.2 hc
    refine g_aload_n (i := 1) dX0_firstWrong_10 rfl rfl ?_
    refine gf_RX0_26 rfl dX0_firstWrong_11 ho1.1 ?_
    refine g_aload_n (i := 0) dX0_firstWrong_14 rfl rfl ?_
    refine gf_RX0_9 rfl dX0_firstWrong_15 sh_115 ?_
    refine g_iload_n (i := 2) dX0_firstWrong_18 rfl rfl ?_
    have hv1 := h.1; replace h := h.2
    refine g_iald dX0_firstWrong_19 sh_116 hv1 ?_
    have hv2 := h.1; replace h := h.2
    refine g_iald dX0_firstWrong_20 ho1.2.1 hv2 ?_
    refine g_iconst (v := (1 : Int32)) dX0_firstWrong_21 (by decide) ?_
    refine g_aload_n (i := 0) dX0_firstWrong_22 rfl rfl ?_
    refine gf_RX0_15 rfl dX0_firstWrong_23 sh_115 ?_
    refine g_iload_n (i := 2) dX0_firstWrong_26 rfl rfl ?_
    refine g_iald dX0_firstWrong_27 sh_117 hv1 ?_
    refine g_ishl dX0_firstWrong_28 ?_
    refine g_iand dX0_firstWrong_29 ?_
    refine g_if_eq (tgt := 37) dX0_firstWrong_30 rfl ⟨fun hc => ?_, fun hc => ?_⟩
    · replace h := h.1 hc
      refine g_iconst (v := (0 : Int32)) dX0_firstWrong_37 (by decide) ?_
      exact h
    · replace h := h.2 hc
      refine g_iconst (v := (1 : Int32)) dX0_firstWrong_33 (by decide) ?_
      refine g_goto (tgt := 38) dX0_firstWrong_34 rfl ?_
      exact h
theorem bX0_firstWrong_38 {κ : gK} {M : MM} {Q : Int32 → MM → Prop} (o1 : Nat) (ho1 : stO o1) (l2 : Int32) (s0 : Int32)
    (h : (vp_in l2 15) ∧ (((s0 = (M 118 (l2).toNatClampNeg) → G κ mX0_firstWrong 2 [.ref 115, .ref o1, .int (l2 + 1), .null] [] M Q) ∧ (¬ s0 = (M 118 (l2).toNatClampNeg) → Q l2 M)))) :
    G κ mX0_firstWrong 38 [.ref 115, .ref o1, .int l2, .null] [.int s0] M Q := by
  refine g_istore_n (i := 3) (L' := [.ref 115, .ref o1, .int l2, .int s0]) dX0_firstWrong_38 rfl (Nat.le_of_ble_eq_true rfl) rfl rfl ?_
  refine g_iload_n (i := 3) dX0_firstWrong_39 rfl rfl ?_
  refine g_aload_n (i := 0) dX0_firstWrong_40 rfl rfl ?_
  refine gf_RX0_18 rfl dX0_firstWrong_41 sh_115 ?_
  refine g_iload_n (i := 2) dX0_firstWrong_44 rfl rfl ?_
  have hv1 := h.1; replace h := h.2
  refine g_zald dX0_firstWrong_45 sh_118 hv1 ?_
  refine g_icmp_eq (tgt := 51) dX0_firstWrong_46 rfl ⟨fun hc => ?_, fun hc => ?_⟩
  · replace h := h.1 hc
    refine g_iinc (v := (l2 + 1)) (L' := [.ref 115, .ref o1, .int (l2 + 1), .int s0]) dX0_firstWrong_51 rfl rfl (Nat.le_of_ble_eq_true rfl) rfl rfl ?_
    refine g_goto (tgt := 2) dX0_firstWrong_54 rfl ?_
    exact g_sub _ (sub_c (Or.inr rfl) (sub_c (Or.inr rfl) (sub_c (Or.inr rfl) (sub_c (Or.inl rfl) sub_n)))) h
  · replace h := h.2 hc
    refine g_iload_n (i := 2) dX0_firstWrong_49 rfl rfl ?_
    exact g_iret dX0_firstWrong_50 rfl h
theorem eX0_firstWrong {κ : gK} {M : MM} {Q : Int32 → MM → Prop} (o1 : Nat)
    (h : G κ mX0_firstWrong 0 [.ref 115, .ref o1, .null, .null] [] M Q) : Cl κ mX0_firstWrong [.ref 115, .ref o1] M Q := g_entry 2 pl_X0_firstWrong (Nat.le_of_ble_eq_true rfl) (L := [.ref 115, .ref o1, .null, .null]) rfl (g_sub _ (sub_c (Or.inr rfl) (sub_c (Or.inr rfl) (sub_c (Or.inr rfl) (sub_c (Or.inr rfl) sub_n)))) h)
theorem dX2_take_0 : decode cX2_take 0 = .ok (.aload_n 0, 1) := by decide +kernel
theorem dX2_take_1 : decode cX2_take 1 = .ok (.getfield 11, 3) := by decide +kernel
theorem dX2_take_4 : decode cX2_take 4 = .ok (.iload_n 1, 1) := by decide +kernel
theorem dX2_take_5 : decode cX2_take 5 = .ok (.aaload, 1) := by decide +kernel
theorem dX2_take_6 : decode cX2_take 6 = .ok (.aload_n 2, 1) := by decide +kernel
theorem dX2_take_7 : decode cX2_take 7 = .ok (.invokevirtual 26, 3) := by decide +kernel
theorem dX2_take_10 : decode cX2_take 10 = .ok (.aload_n 0, 1) := by decide +kernel
theorem dX2_take_11 : decode cX2_take 11 = .ok (.getfield 17, 3) := by decide +kernel
theorem dX2_take_14 : decode cX2_take 14 = .ok (.iload_n 1, 1) := by decide +kernel
theorem dX2_take_15 : decode cX2_take 15 = .ok (.iload_n 3, 1) := by decide +kernel
theorem dX2_take_16 : decode cX2_take 16 = .ok (.iastore, 1) := by decide +kernel
theorem dX2_take_17 : decode cX2_take 17 = .ok (.aload_n 0, 1) := by decide +kernel
theorem dX2_take_18 : decode cX2_take 18 = .ok (.getfield 21, 3) := by decide +kernel
theorem dX2_take_21 : decode cX2_take 21 = .ok (.iload_n 1, 1) := by decide +kernel
theorem dX2_take_22 : decode cX2_take 22 = .ok (.iconst 1, 1) := by decide +kernel
theorem dX2_take_23 : decode cX2_take 23 = .ok (.bastore, 1) := by decide +kernel
theorem dX2_take_24 : decode cX2_take 24 = .ok (.return_, 1) := by decide +kernel
theorem bX2_take_0 {κ : gK} {M : MM} {Q : Int32 → MM → Prop} (o2 : Nat) (ho2 : stO o2) (l1 : Int32) (l3 : Int32)
    (h : (vp_in l1 2) ∧ (Cl κ mX8_copyFrom [.ref (91 + 4 * (l1).toNatClampNeg), .ref o2] M (fun _ M1 => ∀ M2 : MM, M2 = (pt M1 89 (l1).toNatClampNeg l3) → (∀ M3 : MM, M3 = (pt M2 90 (l1).toNatClampNeg (1 : Int32)) → (Q 0 M3))))) :
    G κ mX2_take 0 [.ref 87, .int l1, .ref o2, .int l3] [] M Q := by
  refine g_aload_n (i := 0) dX2_take_0 rfl rfl ?_
  refine gf_RX2_11 rfl dX2_take_1 sh_87 ?_
  refine g_iload_n (i := 1) dX2_take_4 rfl rfl ?_
  have hv1 := h.1; replace h := h.2
  refine g_aald (d := (91 + 4 * (l1).toNatClampNeg)) dX2_take_5 sh_88 hv1 rfl ?_
  refine g_aload_n (i := 2) dX2_take_6 rfl rfl ?_
  refine gc_RX2_26 rfl (Nat.le_of_ble_eq_true rfl) dX2_take_7 (stO_img hv1).1 (Nat.le_of_ble_eq_true rfl) ?_
  refine Cl.mono h (fun r1 M1 h => ?_)
  refine g_aload_n (i := 0) dX2_take_10 rfl rfl ?_
  refine gf_RX2_17 rfl dX2_take_11 sh_87 ?_
  refine g_iload_n (i := 1) dX2_take_14 rfl rfl ?_
  refine g_iload_n (i := 3) dX2_take_15 rfl rfl ?_
  refine g_iastP dX2_take_16 sh_89 hv1 ?_
  refine g_nmM (fun M2 hM2 => ?_); replace h := h M2 hM2
  refine g_aload_n (i := 0) dX2_take_17 rfl rfl ?_
  refine gf_RX2_21 rfl dX2_take_18 sh_87 ?_
  refine g_iload_n (i := 1) dX2_take_21 rfl rfl ?_
  refine g_iconst (v := (1 : Int32)) dX2_take_22 (by decide) ?_
  refine g_zastP dX2_take_23 sh_90 hv1 ?_
  refine g_nmM (fun M3 hM3 => ?_); replace h := h M3 hM3
  exact g_vret dX2_take_24 rfl h
theorem eX2_take {κ : gK} {M : MM} {Q : Int32 → MM → Prop} (o2 : Nat) (l1 : Int32) (l3 : Int32)
    (h : G κ mX2_take 0 [.ref 87, .int l1, .ref o2, .int l3] [] M Q) : Cl κ mX2_take [.ref 87, .int l1, .ref o2, .int l3] M Q := g_entry 0 pl_X2_take (Nat.le_of_ble_eq_true rfl) (L := [.ref 87, .int l1, .ref o2, .int l3]) rfl (g_sub _ (sub_c (Or.inr rfl) (sub_c (Or.inr rfl) (sub_c (Or.inr rfl) (sub_c (Or.inr rfl) sub_n)))) h)
theorem dX2_forget_0 : decode cX2_forget 0 = .ok (.iconst 0, 1) := by decide +kernel
theorem dX2_forget_1 : decode cX2_forget 1 = .ok (.istore_n 1, 1) := by decide +kernel
theorem dX2_forget_2 : decode cX2_forget 2 = .ok (.iload_n 1, 1) := by decide +kernel
theorem dX2_forget_3 : decode cX2_forget 3 = .ok (.iconst 2, 1) := by decide +kernel
theorem dX2_forget_4 : decode cX2_forget 4 = .ok (.if_icmp .ge 16, 3) := by decide +kernel
theorem dX2_forget_7 : decode cX2_forget 7 = .ok (.aload_n 0, 1) := by decide +kernel
theorem dX2_forget_8 : decode cX2_forget 8 = .ok (.getfield 21, 3) := by decide +kernel
theorem dX2_forget_11 : decode cX2_forget 11 = .ok (.iload_n 1, 1) := by decide +kernel
theorem dX2_forget_12 : decode cX2_forget 12 = .ok (.iconst 0, 1) := by decide +kernel
theorem dX2_forget_13 : decode cX2_forget 13 = .ok (.bastore, 1) := by decide +kernel
theorem dX2_forget_14 : decode cX2_forget 14 = .ok (.iinc 1 1, 3) := by decide +kernel
theorem dX2_forget_17 : decode cX2_forget 17 = .ok (.goto (-15), 3) := by decide +kernel
theorem dX2_forget_20 : decode cX2_forget 20 = .ok (.return_, 1) := by decide +kernel
theorem bX2_forget_0 {κ : gK} {M : MM} {Q : Int32 → MM → Prop} 
    (h : G κ mX2_forget 2 [.ref 87, .int (0 : Int32)] [] M Q) :
    G κ mX2_forget 0 [.ref 87, .null] [] M Q := by
  refine g_iconst (v := (0 : Int32)) dX2_forget_0 (by decide) ?_
  refine g_istore_n (i := 1) (L' := [.ref 87, .int (0 : Int32)]) dX2_forget_1 rfl (Nat.le_of_ble_eq_true rfl) rfl rfl ?_
  exact h
theorem bX2_forget_2 {κ : gK} {M : MM} {Q : Int32 → MM → Prop} (l1 : Int32)
    (h : (((2 : Int32) ≤ l1 → Q 0 M) ∧ (¬ (2 : Int32) ≤ l1 → (vp_in l1 2) ∧ (∀ M1 : MM, M1 = (pt M 90 (l1).toNatClampNeg (0 : Int32)) → (G κ mX2_forget 2 [.ref 87, .int (l1 + 1)] [] M1 Q))))) :
    G κ mX2_forget 2 [.ref 87, .int l1] [] M Q := by
  refine g_iload_n (i := 1) dX2_forget_2 rfl rfl ?_
  refine g_iconst (v := (2 : Int32)) dX2_forget_3 (by decide) ?_
  refine g_icmp_ge (tgt := 20) dX2_forget_4 rfl ⟨fun hc => ?_, fun hc => ?_⟩
  · replace h := h.1 hc
    exact g_vret dX2_forget_20 rfl h
  · replace h := h.2 hc
    refine g_aload_n (i := 0) dX2_forget_7 rfl rfl ?_
    refine gf_RX2_21 rfl dX2_forget_8 sh_87 ?_
    refine g_iload_n (i := 1) dX2_forget_11 rfl rfl ?_
    refine g_iconst (v := (0 : Int32)) dX2_forget_12 (by decide) ?_
    have hv1 := h.1; replace h := h.2
    refine g_zastP dX2_forget_13 sh_90 hv1 ?_
    refine g_nmM (fun M1 hM1 => ?_); replace h := h M1 hM1
    refine g_iinc (v := (l1 + 1)) (L' := [.ref 87, .int (l1 + 1)]) dX2_forget_14 rfl rfl (Nat.le_of_ble_eq_true rfl) rfl rfl ?_
    refine g_goto (tgt := 2) dX2_forget_17 rfl ?_
    exact h
theorem eX2_forget {κ : gK} {M : MM} {Q : Int32 → MM → Prop} 
    (h : G κ mX2_forget 0 [.ref 87, .null] [] M Q) : Cl κ mX2_forget [.ref 87] M Q := g_entry 1 pl_X2_forget (Nat.le_of_ble_eq_true rfl) (L := [.ref 87, .null]) rfl (g_sub _ (sub_c (Or.inr rfl) (sub_c (Or.inr rfl) sub_n)) h)
theorem dX4_remember_0 : decode cX4_remember 0 = .ok (.aload_n 0, 1) := by decide +kernel
theorem dX4_remember_1 : decode cX4_remember 1 = .ok (.getfield 11, 3) := by decide +kernel
theorem dX4_remember_4 : decode cX4_remember 4 = .ok (.aload_n 0, 1) := by decide +kernel
theorem dX4_remember_5 : decode cX4_remember 5 = .ok (.getfield 17, 3) := by decide +kernel
theorem dX4_remember_8 : decode cX4_remember 8 = .ok (.aaload, 1) := by decide +kernel
theorem dX4_remember_9 : decode cX4_remember 9 = .ok (.aload_n 1, 1) := by decide +kernel
theorem dX4_remember_10 : decode cX4_remember 10 = .ok (.invokevirtual 25, 3) := by decide +kernel
theorem dX4_remember_13 : decode cX4_remember 13 = .ok (.aload_n 0, 1) := by decide +kernel
theorem dX4_remember_14 : decode cX4_remember 14 = .ok (.aload_n 0, 1) := by decide +kernel
theorem dX4_remember_15 : decode cX4_remember 15 = .ok (.getfield 17, 3) := by decide +kernel
theorem dX4_remember_18 : decode cX4_remember 18 = .ok (.iconst 1, 1) := by decide +kernel
theorem dX4_remember_19 : decode cX4_remember 19 = .ok (.iadd, 1) := by decide +kernel
theorem dX4_remember_20 : decode cX4_remember 20 = .ok (.bipush 16, 2) := by decide +kernel
theorem dX4_remember_22 : decode cX4_remember 22 = .ok (.if_icmp .ge 12, 3) := by decide +kernel
theorem dX4_remember_25 : decode cX4_remember 25 = .ok (.aload_n 0, 1) := by decide +kernel
theorem dX4_remember_26 : decode cX4_remember 26 = .ok (.getfield 17, 3) := by decide +kernel
theorem dX4_remember_29 : decode cX4_remember 29 = .ok (.iconst 1, 1) := by decide +kernel
theorem dX4_remember_30 : decode cX4_remember 30 = .ok (.iadd, 1) := by decide +kernel
theorem dX4_remember_31 : decode cX4_remember 31 = .ok (.goto 4, 3) := by decide +kernel
theorem dX4_remember_34 : decode cX4_remember 34 = .ok (.iconst 0, 1) := by decide +kernel
theorem dX4_remember_35 : decode cX4_remember 35 = .ok (.putfield 17, 3) := by decide +kernel
theorem dX4_remember_38 : decode cX4_remember 38 = .ok (.aload_n 0, 1) := by decide +kernel
theorem dX4_remember_39 : decode cX4_remember 39 = .ok (.aload_n 0, 1) := by decide +kernel
theorem dX4_remember_40 : decode cX4_remember 40 = .ok (.getfield 21, 3) := by decide +kernel
theorem dX4_remember_43 : decode cX4_remember 43 = .ok (.iconst 1, 1) := by decide +kernel
theorem dX4_remember_44 : decode cX4_remember 44 = .ok (.iadd, 1) := by decide +kernel
theorem dX4_remember_45 : decode cX4_remember 45 = .ok (.bipush 16, 2) := by decide +kernel
theorem dX4_remember_47 : decode cX4_remember 47 = .ok (.invokestatic 29, 3) := by decide +kernel
theorem dX4_remember_50 : decode cX4_remember 50 = .ok (.putfield 21, 3) := by decide +kernel
theorem dX4_remember_53 : decode cX4_remember 53 = .ok (.return_, 1) := by decide +kernel
theorem bX4_remember_0 {κ : gK} {M : MM} {Q : Int32 → MM → Prop} (o1 : Nat) (ho1 : stO o1)
    (h : (vp_in (M 21 1) 16) ∧ (Cl κ mX8_copyFrom [.ref (23 + 4 * ((M 21 1)).toNatClampNeg), .ref o1] M (fun _ M1 => (((16 : Int32) ≤ ((M1 21 1) + (1 : Int32)) → G κ mX4_remember 35 [.ref 21, .null] [.int (0 : Int32), .ref 21] M1 Q) ∧ (¬ (16 : Int32) ≤ ((M1 21 1) + (1 : Int32)) → G κ mX4_remember 35 [.ref 21, .null] [.int ((M1 21 1) + (1 : Int32)), .ref 21] M1 Q))))) :
    G κ mX4_remember 0 [.ref 21, .ref o1] [] M Q := by
  refine g_aload_n (i := 0) dX4_remember_0 rfl rfl ?_
  refine gf_RX4_11 rfl dX4_remember_1 sh_21 ?_
  refine g_aload_n (i := 0) dX4_remember_4 rfl rfl ?_
  refine gf_RX4_17 rfl dX4_remember_5 sh_21 ?_
  have hv1 := h.1; replace h := h.2
  refine g_aald (d := (23 + 4 * ((M 21 1)).toNatClampNeg)) dX4_remember_8 sh_22 hv1 rfl ?_
  refine g_aload_n (i := 1) dX4_remember_9 rfl rfl ?_
  refine gc_RX4_25 rfl (Nat.le_of_ble_eq_true rfl) dX4_remember_10 (stO_past hv1).1 (Nat.le_of_ble_eq_true rfl) ?_
  refine Cl.mono h (fun r1 M1 h => ?_)
  refine g_aload_n (i := 0) dX4_remember_13 rfl rfl ?_
  refine g_aload_n (i := 0) dX4_remember_14 rfl rfl ?_
  refine gf_RX4_17 rfl dX4_remember_15 sh_21 ?_
  refine g_iconst (v := (1 : Int32)) dX4_remember_18 (by decide) ?_
  refine g_iadd dX4_remember_19 ?_
  refine g_bipush (v := (16 : Int32)) dX4_remember_20 (by decide) ?_
  refine g_icmp_ge (tgt := 34) dX4_remember_22 rfl ⟨fun hc => ?_, fun hc => ?_⟩
  · replace h := h.1 hc
    refine g_iconst (v := (0 : Int32)) dX4_remember_34 (by decide) ?_
    exact g_sub _ (sub_c (Or.inr rfl) (sub_c (Or.inl rfl) sub_n)) h
  · replace h := h.2 hc
    refine g_aload_n (i := 0) dX4_remember_25 rfl rfl ?_
    refine gf_RX4_17 rfl dX4_remember_26 sh_21 ?_
    refine g_iconst (v := (1 : Int32)) dX4_remember_29 (by decide) ?_
    refine g_iadd dX4_remember_30 ?_
    refine g_goto (tgt := 35) dX4_remember_31 rfl ?_
    exact g_sub _ (sub_c (Or.inr rfl) (sub_c (Or.inl rfl) sub_n)) h
theorem bX4_remember_35 {κ : gK} {M : MM} {Q : Int32 → MM → Prop} (o1 : Nat) (ho1 : stO o1) (s0 : Int32)
    (h : ∀ M1 : MM, M1 = (pt M 21 1 s0) → (∀ M2 : MM, M2 = (pt M1 21 2 (jmin ((M1 21 2) + (1 : Int32)) (16 : Int32))) → (Q 0 M2))) :
    G κ mX4_remember 35 [.ref 21, .null] [.int s0, .ref 21] M Q := by
  refine gp_RX4_17 rfl dX4_remember_35 sh_21 ?_
  refine g_nmM (fun M1 hM1 => ?_); replace h := h M1 hM1
  refine g_aload_n (i := 0) dX4_remember_38 rfl rfl ?_
  refine g_aload_n (i := 0) dX4_remember_39 rfl rfl ?_
  refine gf_RX4_21 rfl dX4_remember_40 sh_21 ?_
  refine g_iconst (v := (1 : Int32)) dX4_remember_43 (by decide) ?_
  refine g_iadd dX4_remember_44 ?_
  refine g_bipush (v := (16 : Int32)) dX4_remember_45 (by decide) ?_
  refine gc_RX4_29 rfl dX4_remember_47 (Nat.le_of_ble_eq_true rfl) (Nat.le_of_ble_eq_true rfl) ?_
  refine gp_RX4_21 rfl dX4_remember_50 sh_21 ?_
  refine g_nmM (fun M2 hM2 => ?_); replace h := h M2 hM2
  exact g_vret dX4_remember_53 rfl h
theorem eX4_remember {κ : gK} {M : MM} {Q : Int32 → MM → Prop} (o1 : Nat)
    (h : G κ mX4_remember 0 [.ref 21, .ref o1] [] M Q) : Cl κ mX4_remember [.ref 21, .ref o1] M Q := g_entry 0 pl_X4_remember (Nat.le_of_ble_eq_true rfl) (L := [.ref 21, .ref o1]) rfl (g_sub _ (sub_c (Or.inr rfl) (sub_c (Or.inr rfl) sub_n)) h)
theorem dX4_restore_0 : decode cX4_restore 0 = .ok (.aload_n 0, 1) := by decide +kernel
theorem dX4_restore_1 : decode cX4_restore 1 = .ok (.getfield 21, 3) := by decide +kernel
theorem dX4_restore_4 : decode cX4_restore 4 = .ok (.ifCond .ne 4, 3) := by decide +kernel
theorem dX4_restore_7 : decode cX4_restore 7 = .ok (.return_, 1) := by decide +kernel
theorem dX4_restore_8 : decode cX4_restore 8 = .ok (.aload_n 0, 1) := by decide +kernel
theorem dX4_restore_9 : decode cX4_restore 9 = .ok (.aload_n 0, 1) := by decide +kernel
theorem dX4_restore_10 : decode cX4_restore 10 = .ok (.getfield 17, 3) := by decide +kernel
theorem dX4_restore_13 : decode cX4_restore 13 = .ok (.ifCond .le 12, 3) := by decide +kernel
theorem dX4_restore_16 : decode cX4_restore 16 = .ok (.aload_n 0, 1) := by decide +kernel
theorem dX4_restore_17 : decode cX4_restore 17 = .ok (.getfield 17, 3) := by decide +kernel
theorem dX4_restore_20 : decode cX4_restore 20 = .ok (.iconst 1, 1) := by decide +kernel
theorem dX4_restore_21 : decode cX4_restore 21 = .ok (.isub, 1) := by decide +kernel
theorem dX4_restore_22 : decode cX4_restore 22 = .ok (.goto 5, 3) := by decide +kernel
theorem dX4_restore_25 : decode cX4_restore 25 = .ok (.bipush 15, 2) := by decide +kernel
theorem dX4_restore_27 : decode cX4_restore 27 = .ok (.putfield 17, 3) := by decide +kernel
theorem dX4_restore_30 : decode cX4_restore 30 = .ok (.aload_n 0, 1) := by decide +kernel
theorem dX4_restore_31 : decode cX4_restore 31 = .ok (.dup, 1) := by decide +kernel
theorem dX4_restore_32 : decode cX4_restore 32 = .ok (.getfield 21, 3) := by decide +kernel
theorem dX4_restore_35 : decode cX4_restore 35 = .ok (.iconst 1, 1) := by decide +kernel
theorem dX4_restore_36 : decode cX4_restore 36 = .ok (.isub, 1) := by decide +kernel
theorem dX4_restore_37 : decode cX4_restore 37 = .ok (.putfield 21, 3) := by decide +kernel
theorem dX4_restore_40 : decode cX4_restore 40 = .ok (.aload_n 1, 1) := by decide +kernel
theorem dX4_restore_41 : decode cX4_restore 41 = .ok (.aload_n 0, 1) := by decide +kernel
theorem dX4_restore_42 : decode cX4_restore 42 = .ok (.getfield 11, 3) := by decide +kernel
theorem dX4_restore_45 : decode cX4_restore 45 = .ok (.aload_n 0, 1) := by decide +kernel
theorem dX4_restore_46 : decode cX4_restore 46 = .ok (.getfield 17, 3) := by decide +kernel
theorem dX4_restore_49 : decode cX4_restore 49 = .ok (.aaload, 1) := by decide +kernel
theorem dX4_restore_50 : decode cX4_restore 50 = .ok (.invokevirtual 25, 3) := by decide +kernel
theorem dX4_restore_53 : decode cX4_restore 53 = .ok (.return_, 1) := by decide +kernel
theorem bX4_restore_0 {κ : gK} {M : MM} {Q : Int32 → MM → Prop} (o1 : Nat) (ho1 : stO o1)
    (h : (((M 21 2) = 0 → Q 0 M) ∧ (¬ (M 21 2) = 0 → (((M 21 1) ≤ 0 → G κ mX4_restore 27 [.ref 21, .ref o1] [.int (15 : Int32), .ref 21] M Q) ∧ (¬ (M 21 1) ≤ 0 → G κ mX4_restore 27 [.ref 21, .ref o1] [.int ((M 21 1) - (1 : Int32)), .ref 21] M Q))))) :
    G κ mX4_restore 0 [.ref 21, .ref o1] [] M Q := by
  refine g_aload_n (i := 0) dX4_restore_0 rfl rfl ?_
  refine gf_RX4_21 rfl dX4_restore_1 sh_21 ?_
  refine g_if_ne (tgt := 8) dX4_restore_4 rfl ⟨fun hc => ?_, fun hc => ?_⟩
  · replace h := h.1 hc
    exact g_vret dX4_restore_7 rfl h
  · replace h := h.2 hc
    refine g_aload_n (i := 0) dX4_restore_8 rfl rfl ?_
    refine g_aload_n (i := 0) dX4_restore_9 rfl rfl ?_
    refine gf_RX4_17 rfl dX4_restore_10 sh_21 ?_
    refine g_if_le (tgt := 25) dX4_restore_13 rfl ⟨fun hc => ?_, fun hc => ?_⟩
    · replace h := h.1 hc
      refine g_bipush (v := (15 : Int32)) dX4_restore_25 (by decide) ?_
      exact h
    · replace h := h.2 hc
      refine g_aload_n (i := 0) dX4_restore_16 rfl rfl ?_
      refine gf_RX4_17 rfl dX4_restore_17 sh_21 ?_
      refine g_iconst (v := (1 : Int32)) dX4_restore_20 (by decide) ?_
      refine g_isub dX4_restore_21 ?_
      refine g_goto (tgt := 27) dX4_restore_22 rfl ?_
      exact h
theorem bX4_restore_27 {κ : gK} {M : MM} {Q : Int32 → MM → Prop} (o1 : Nat) (ho1 : stO o1) (s0 : Int32)
    (h : ∀ M1 : MM, M1 = (pt M 21 1 s0) → (∀ M2 : MM, M2 = (pt M1 21 2 ((M1 21 2) - (1 : Int32))) → ((vp_in (M2 21 1) 16) ∧ (Cl κ mX8_copyFrom [.ref o1, .ref (23 + 4 * ((M2 21 1)).toNatClampNeg)] M2 (fun _ M3 => Q 0 M3))))) :
    G κ mX4_restore 27 [.ref 21, .ref o1] [.int s0, .ref 21] M Q := by
  refine gp_RX4_17 rfl dX4_restore_27 sh_21 ?_
  refine g_nmM (fun M1 hM1 => ?_); replace h := h M1 hM1
  refine g_aload_n (i := 0) dX4_restore_30 rfl rfl ?_
  refine g_dup dX4_restore_31 rfl ?_
  refine gf_RX4_21 rfl dX4_restore_32 sh_21 ?_
  refine g_iconst (v := (1 : Int32)) dX4_restore_35 (by decide) ?_
  refine g_isub dX4_restore_36 ?_
  refine gp_RX4_21 rfl dX4_restore_37 sh_21 ?_
  refine g_nmM (fun M2 hM2 => ?_); replace h := h M2 hM2
  refine g_aload_n (i := 1) dX4_restore_40 rfl rfl ?_
  refine g_aload_n (i := 0) dX4_restore_41 rfl rfl ?_
  refine gf_RX4_11 rfl dX4_restore_42 sh_21 ?_
  refine g_aload_n (i := 0) dX4_restore_45 rfl rfl ?_
  refine gf_RX4_17 rfl dX4_restore_46 sh_21 ?_
  have hv1 := h.1; replace h := h.2
  refine g_aald (d := (23 + 4 * ((M2 21 1)).toNatClampNeg)) dX4_restore_49 sh_22 hv1 rfl ?_
  refine gc_RX4_25 rfl (Nat.le_of_ble_eq_true rfl) dX4_restore_50 ho1.1 (Nat.le_of_ble_eq_true rfl) ?_
  refine Cl.mono h (fun r3 M3 h => ?_)
  exact g_vret dX4_restore_53 rfl h
theorem eX4_restore {κ : gK} {M : MM} {Q : Int32 → MM → Prop} (o1 : Nat)
    (h : G κ mX4_restore 0 [.ref 21, .ref o1] [] M Q) : Cl κ mX4_restore [.ref 21, .ref o1] M Q := g_entry 0 pl_X4_restore (Nat.le_of_ble_eq_true rfl) (L := [.ref 21, .ref o1]) rfl (g_sub _ (sub_c (Or.inr rfl) (sub_c (Or.inr rfl) sub_n)) h)
theorem dX4_forget_0 : decode cX4_forget 0 = .ok (.aload_n 0, 1) := by decide +kernel
theorem dX4_forget_1 : decode cX4_forget 1 = .ok (.iconst 0, 1) := by decide +kernel
theorem dX4_forget_2 : decode cX4_forget 2 = .ok (.putfield 17, 3) := by decide +kernel
theorem dX4_forget_5 : decode cX4_forget 5 = .ok (.aload_n 0, 1) := by decide +kernel
theorem dX4_forget_6 : decode cX4_forget 6 = .ok (.iconst 0, 1) := by decide +kernel
theorem dX4_forget_7 : decode cX4_forget 7 = .ok (.putfield 21, 3) := by decide +kernel
theorem dX4_forget_10 : decode cX4_forget 10 = .ok (.return_, 1) := by decide +kernel
theorem bX4_forget_0 {κ : gK} {M : MM} {Q : Int32 → MM → Prop} 
    (h : ∀ M1 : MM, M1 = (pt M 21 1 (0 : Int32)) → (∀ M2 : MM, M2 = (pt M1 21 2 (0 : Int32)) → (Q 0 M2))) :
    G κ mX4_forget 0 [.ref 21] [] M Q := by
  refine g_aload_n (i := 0) dX4_forget_0 rfl rfl ?_
  refine g_iconst (v := (0 : Int32)) dX4_forget_1 (by decide) ?_
  refine gp_RX4_17 rfl dX4_forget_2 sh_21 ?_
  refine g_nmM (fun M1 hM1 => ?_); replace h := h M1 hM1
  refine g_aload_n (i := 0) dX4_forget_5 rfl rfl ?_
  refine g_iconst (v := (0 : Int32)) dX4_forget_6 (by decide) ?_
  refine gp_RX4_21 rfl dX4_forget_7 sh_21 ?_
  refine g_nmM (fun M2 hM2 => ?_); replace h := h M2 hM2
  exact g_vret dX4_forget_10 rfl h
theorem eX4_forget {κ : gK} {M : MM} {Q : Int32 → MM → Prop} 
    (h : G κ mX4_forget 0 [.ref 21] [] M Q) : Cl κ mX4_forget [.ref 21] M Q := g_entry 0 pl_X4_forget (Nat.le_of_ble_eq_true rfl) (L := [.ref 21]) rfl (g_sub _ (sub_c (Or.inr rfl) sub_n) h)
