theorem dX5_add_0 : decode cX5_add 0 = .ok (.aload_n 0, 1) := by decide +kernel
theorem dX5_add_1 : decode cX5_add 1 = .ok (.getfield 15, 3) := by decide +kernel
theorem dX5_add_4 : decode cX5_add 4 = .ok (.sipush 240, 3) := by decide +kernel
theorem dX5_add_7 : decode cX5_add 7 = .ok (.if_icmp .ge 23, 3) := by decide +kernel
theorem dX5_add_10 : decode cX5_add 10 = .ok (.aload_n 0, 1) := by decide +kernel
theorem dX5_add_11 : decode cX5_add 11 = .ok (.getfield 9, 3) := by decide +kernel
theorem dX5_add_14 : decode cX5_add 14 = .ok (.aload_n 0, 1) := by decide +kernel
theorem dX5_add_15 : decode cX5_add 15 = .ok (.getfield 15, 3) := by decide +kernel
theorem dX5_add_18 : decode cX5_add 18 = .ok (.iload_n 1, 1) := by decide +kernel
theorem dX5_add_19 : decode cX5_add 19 = .ok (.iastore, 1) := by decide +kernel
theorem dX5_add_20 : decode cX5_add 20 = .ok (.aload_n 0, 1) := by decide +kernel
theorem dX5_add_21 : decode cX5_add 21 = .ok (.dup, 1) := by decide +kernel
theorem dX5_add_22 : decode cX5_add 22 = .ok (.getfield 15, 3) := by decide +kernel
theorem dX5_add_25 : decode cX5_add 25 = .ok (.iconst 1, 1) := by decide +kernel
theorem dX5_add_26 : decode cX5_add 26 = .ok (.iadd, 1) := by decide +kernel
theorem dX5_add_27 : decode cX5_add 27 = .ok (.putfield 15, 3) := by decide +kernel
theorem dX5_add_30 : decode cX5_add 30 = .ok (.aload_n 0, 1) := by decide +kernel
theorem dX5_add_31 : decode cX5_add 31 = .ok (.getfield 15, 3) := by decide +kernel
theorem dX5_add_34 : decode cX5_add 34 = .ok (.ireturn, 1) := by decide +kernel
theorem bX5_add_0 {κ : gK} {M : MM} {Q : Int32 → MM → Prop} (l1 : Int32)
    (h : (((240 : Int32) ≤ (M 11 1) → G κ mX5_add 30 [.ref 11, .null] [] M Q) ∧ (¬ (240 : Int32) ≤ (M 11 1) → (vp_in (M 11 1) 240) ∧ (∀ M1 : MM, M1 = (pt M 12 ((M 11 1)).toNatClampNeg l1) → (∀ M2 : MM, M2 = (pt M1 11 1 ((M1 11 1) + (1 : Int32))) → (G κ mX5_add 30 [.ref 11, .null] [] M2 Q)))))) :
    G κ mX5_add 0 [.ref 11, .int l1] [] M Q := by
  refine g_aload_n (i := 0) dX5_add_0 rfl rfl ?_
  refine gf_RX5_15 rfl dX5_add_1 sh_11 ?_
  refine g_sipush (v := (240 : Int32)) dX5_add_4 (by decide) ?_
  refine g_icmp_ge (tgt := 30) dX5_add_7 rfl ⟨fun hc => ?_, fun hc => ?_⟩
  · replace h := h.1 hc
    exact g_sub _ (sub_c (Or.inr rfl) (sub_c (Or.inl rfl) sub_n)) h
  · replace h := h.2 hc
    refine g_aload_n (i := 0) dX5_add_10 rfl rfl ?_
    refine gf_RX5_9 rfl dX5_add_11 sh_11 ?_
    refine g_aload_n (i := 0) dX5_add_14 rfl rfl ?_
    refine gf_RX5_15 rfl dX5_add_15 sh_11 ?_
    refine g_iload_n (i := 1) dX5_add_18 rfl rfl ?_
    have hv1 := h.1; replace h := h.2
    refine g_iastP dX5_add_19 sh_12 hv1 ?_
    refine g_nmM (fun M1 hM1 => ?_); replace h := h M1 hM1
    refine g_aload_n (i := 0) dX5_add_20 rfl rfl ?_
    refine g_dup dX5_add_21 rfl ?_
    refine gf_RX5_15 rfl dX5_add_22 sh_11 ?_
    refine g_iconst (v := (1 : Int32)) dX5_add_25 (by decide) ?_
    refine g_iadd dX5_add_26 ?_
    refine gp_RX5_15 rfl dX5_add_27 sh_11 ?_
    refine g_nmM (fun M2 hM2 => ?_); replace h := h M2 hM2
    exact g_sub _ (sub_c (Or.inr rfl) (sub_c (Or.inl rfl) sub_n)) h
theorem bX5_add_30 {κ : gK} {M : MM} {Q : Int32 → MM → Prop} 
    (h : Q (M 11 1) M) :
    G κ mX5_add 30 [.ref 11, .null] [] M Q := by
  refine g_aload_n (i := 0) dX5_add_30 rfl rfl ?_
  refine gf_RX5_15 rfl dX5_add_31 sh_11 ?_
  exact g_iret dX5_add_34 rfl h
theorem eX5_add {κ : gK} {M : MM} {Q : Int32 → MM → Prop} (l1 : Int32)
    (h : G κ mX5_add 0 [.ref 11, .int l1] [] M Q) : Cl κ mX5_add [.ref 11, .int l1] M Q := g_entry 0 pl_X5_add (Nat.le_of_ble_eq_true rfl) (L := [.ref 11, .int l1]) rfl (g_sub _ (sub_c (Or.inr rfl) (sub_c (Or.inr rfl) sub_n)) h)
theorem dX5_readInto_0 : decode cX5_readInto 0 = .ok (.aload_n 1, 1) := by decide +kernel
theorem dX5_readInto_1 : decode cX5_readInto 1 = .ok (.invokevirtual 28, 3) := by decide +kernel
theorem dX5_readInto_4 : decode cX5_readInto 4 = .ok (.aload_n 0, 1) := by decide +kernel
theorem dX5_readInto_5 : decode cX5_readInto 5 = .ok (.iconst 0, 1) := by decide +kernel
theorem dX5_readInto_6 : decode cX5_readInto 6 = .ok (.putfield 19, 3) := by decide +kernel
theorem dX5_readInto_9 : decode cX5_readInto 9 = .ok (.aload_n 0, 1) := by decide +kernel
theorem dX5_readInto_10 : decode cX5_readInto 10 = .ok (.iconst 0, 1) := by decide +kernel
theorem dX5_readInto_11 : decode cX5_readInto 11 = .ok (.putfield 22, 3) := by decide +kernel
theorem dX5_readInto_14 : decode cX5_readInto 14 = .ok (.aload_n 0, 1) := by decide +kernel
theorem dX5_readInto_15 : decode cX5_readInto 15 = .ok (.iconst (-1), 1) := by decide +kernel
theorem dX5_readInto_16 : decode cX5_readInto 16 = .ok (.putfield 25, 3) := by decide +kernel
theorem dX5_readInto_19 : decode cX5_readInto 19 = .ok (.aload_n 0, 1) := by decide +kernel
theorem dX5_readInto_20 : decode cX5_readInto 20 = .ok (.invokevirtual 33, 3) := by decide +kernel
theorem dX5_readInto_23 : decode cX5_readInto 23 = .ok (.iconst 0, 1) := by decide +kernel
theorem dX5_readInto_24 : decode cX5_readInto 24 = .ok (.istore_n 2, 1) := by decide +kernel
theorem dX5_readInto_25 : decode cX5_readInto 25 = .ok (.iload_n 2, 1) := by decide +kernel
theorem dX5_readInto_26 : decode cX5_readInto 26 = .ok (.sipush 240, 3) := by decide +kernel
theorem dX5_readInto_29 : decode cX5_readInto 29 = .ok (.if_icmp .ge 36, 3) := by decide +kernel
theorem dX5_readInto_32 : decode cX5_readInto 32 = .ok (.aload_n 0, 1) := by decide +kernel
theorem dX5_readInto_33 : decode cX5_readInto 33 = .ok (.getfield 19, 3) := by decide +kernel
theorem dX5_readInto_36 : decode cX5_readInto 36 = .ok (.aload_n 0, 1) := by decide +kernel
theorem dX5_readInto_37 : decode cX5_readInto 37 = .ok (.getfield 15, 3) := by decide +kernel
theorem dX5_readInto_40 : decode cX5_readInto 40 = .ok (.if_icmp .ge 25, 3) := by decide +kernel
theorem dX5_readInto_43 : decode cX5_readInto 43 = .ok (.aload_n 0, 1) := by decide +kernel
theorem dX5_readInto_44 : decode cX5_readInto 44 = .ok (.getfield 22, 3) := by decide +kernel
theorem dX5_readInto_47 : decode cX5_readInto 47 = .ok (.ifCond .ne 18, 3) := by decide +kernel
theorem dX5_readInto_50 : decode cX5_readInto 50 = .ok (.aload_n 0, 1) := by decide +kernel
theorem dX5_readInto_51 : decode cX5_readInto 51 = .ok (.aload_n 1, 1) := by decide +kernel
theorem dX5_readInto_52 : decode cX5_readInto 52 = .ok (.invokevirtual 36, 3) := by decide +kernel
theorem dX5_readInto_55 : decode cX5_readInto 55 = .ok (.aload_n 0, 1) := by decide +kernel
theorem dX5_readInto_56 : decode cX5_readInto 56 = .ok (.invokevirtual 33, 3) := by decide +kernel
theorem dX5_readInto_59 : decode cX5_readInto 59 = .ok (.iinc 2 1, 3) := by decide +kernel
theorem dX5_readInto_62 : decode cX5_readInto 62 = .ok (.goto (-37), 3) := by decide +kernel
theorem dX5_readInto_65 : decode cX5_readInto 65 = .ok (.aload_n 0, 1) := by decide +kernel
theorem dX5_readInto_66 : decode cX5_readInto 66 = .ok (.iconst 0, 1) := by decide +kernel
theorem dX5_readInto_67 : decode cX5_readInto 67 = .ok (.putfield 15, 3) := by decide +kernel
theorem dX5_readInto_70 : decode cX5_readInto 70 = .ok (.aload_n 0, 1) := by decide +kernel
theorem dX5_readInto_71 : decode cX5_readInto 71 = .ok (.getfield 22, 3) := by decide +kernel
theorem dX5_readInto_74 : decode cX5_readInto 74 = .ok (.ireturn, 1) := by decide +kernel
theorem bX5_readInto_0 {κ : gK} {M : MM} {Q : Int32 → MM → Prop} (o1 : Nat) (ho1 : twO o1)
    (h : Cl κ mX9_clear [.ref o1] M (fun _ M1 => ∀ M2 : MM, M2 = (pt M1 11 2 (0 : Int32)) → (∀ M3 : MM, M3 = (pt M2 11 3 (0 : Int32)) → (∀ M4 : MM, M4 = (pt M3 11 4 (-1 : Int32)) → (Cl κ mX5_skipBlanks [.ref 11] M4 (fun _ M5 => G κ mX5_readInto 25 [.ref 11, .ref o1, .int (0 : Int32)] [] M5 Q)))))) :
    G κ mX5_readInto 0 [.ref 11, .ref o1, .null] [] M Q := by
  refine g_aload_n (i := 1) dX5_readInto_0 rfl rfl ?_
  refine gc_RX5_28 rfl (Nat.le_of_ble_eq_true rfl) dX5_readInto_1 ho1.1 (Nat.le_of_ble_eq_true rfl) ?_
  refine Cl.mono h (fun r1 M1 h => ?_)
  refine g_aload_n (i := 0) dX5_readInto_4 rfl rfl ?_
  refine g_iconst (v := (0 : Int32)) dX5_readInto_5 (by decide) ?_
  refine gp_RX5_19 rfl dX5_readInto_6 sh_11 ?_
  refine g_nmM (fun M2 hM2 => ?_); replace h := h M2 hM2
  refine g_aload_n (i := 0) dX5_readInto_9 rfl rfl ?_
  refine g_iconst (v := (0 : Int32)) dX5_readInto_10 (by decide) ?_
  refine gp_RX5_22 rfl dX5_readInto_11 sh_11 ?_
  refine g_nmM (fun M3 hM3 => ?_); replace h := h M3 hM3
  refine g_aload_n (i := 0) dX5_readInto_14 rfl rfl ?_
  refine g_iconst (v := (-1 : Int32)) dX5_readInto_15 (by decide) ?_
  refine gp_RX5_25 rfl dX5_readInto_16 sh_11 ?_
  refine g_nmM (fun M4 hM4 => ?_); replace h := h M4 hM4
  refine g_aload_n (i := 0) dX5_readInto_19 rfl rfl ?_
  refine gc_RX5_33 rfl (Nat.le_of_ble_eq_true rfl) dX5_readInto_20 sh_11 (Nat.le_of_ble_eq_true rfl) ?_
  refine Cl.mono h (fun r5 M5 h => ?_)
  refine g_iconst (v := (0 : Int32)) dX5_readInto_23 (by decide) ?_
  refine g_istore_n (i := 2) (L' := [.ref 11, .ref o1, .int (0 : Int32)]) dX5_readInto_24 rfl (Nat.le_of_ble_eq_true rfl) rfl rfl ?_
  exact h
theorem bX5_readInto_25 {κ : gK} {M : MM} {Q : Int32 → MM → Prop} (o1 : Nat) (ho1 : twO o1) (l2 : Int32)
    (h : (((240 : Int32) ≤ l2 → G κ mX5_readInto 65 [.ref 11, .null, .null] [] M Q) ∧ (¬ (240 : Int32) ≤ l2 → (((M 11 1) ≤ (M 11 2) → G κ mX5_readInto 65 [.ref 11, .null, .null] [] M Q) ∧ (¬ (M 11 1) ≤ (M 11 2) → (((M 11 3) = 0 → Cl κ mX5_readClause [.ref 11, .ref o1] M (fun _ M1 => Cl κ mX5_skipBlanks [.ref 11] M1 (fun _ M2 => G κ mX5_readInto 25 [.ref 11, .ref o1, .int (l2 + 1)] [] M2 Q))) ∧ (¬ (M 11 3) = 0 → G κ mX5_readInto 65 [.ref 11, .null, .null] [] M Q))))))) :
    G κ mX5_readInto 25 [.ref 11, .ref o1, .int l2] [] M Q := by
  refine g_iload_n (i := 2) dX5_readInto_25 rfl rfl ?_
  refine g_sipush (v := (240 : Int32)) dX5_readInto_26 (by decide) ?_
  refine g_icmp_ge (tgt := 65) dX5_readInto_29 rfl ⟨fun hc => ?_, fun hc => ?_⟩
  · replace h := h.1 hc
    exact g_sub _ (sub_c (Or.inr rfl) (sub_c (Or.inl rfl) (sub_c (Or.inl rfl) sub_n))) h
  · replace h := h.2 hc
    refine g_aload_n (i := 0) dX5_readInto_32 rfl rfl ?_
    refine gf_RX5_19 rfl dX5_readInto_33 sh_11 ?_
    refine g_aload_n (i := 0) dX5_readInto_36 rfl rfl ?_
    refine gf_RX5_15 rfl dX5_readInto_37 sh_11 ?_
    refine g_icmp_ge (tgt := 65) dX5_readInto_40 rfl ⟨fun hc => ?_, fun hc => ?_⟩
    · replace h := h.1 hc
      exact g_sub _ (sub_c (Or.inr rfl) (sub_c (Or.inl rfl) (sub_c (Or.inl rfl) sub_n))) h
    · replace h := h.2 hc
      refine g_aload_n (i := 0) dX5_readInto_43 rfl rfl ?_
      refine gf_RX5_22 rfl dX5_readInto_44 sh_11 ?_
      refine g_if_ne (tgt := 65) dX5_readInto_47 rfl ⟨fun hc => ?_, fun hc => ?_⟩
      · replace h := h.1 hc
        refine g_aload_n (i := 0) dX5_readInto_50 rfl rfl ?_
        refine g_aload_n (i := 1) dX5_readInto_51 rfl rfl ?_
        refine gc_RX5_36 rfl (Nat.le_of_ble_eq_true rfl) dX5_readInto_52 sh_11 (Nat.le_of_ble_eq_true rfl) ?_
        refine Cl.mono h (fun r1 M1 h => ?_)
        refine g_aload_n (i := 0) dX5_readInto_55 rfl rfl ?_
        refine gc_RX5_33 rfl (Nat.le_of_ble_eq_true rfl) dX5_readInto_56 sh_11 (Nat.le_of_ble_eq_true rfl) ?_
        refine Cl.mono h (fun r2 M2 h => ?_)
        refine g_iinc (v := (l2 + 1)) (L' := [.ref 11, .ref o1, .int (l2 + 1)]) dX5_readInto_59 rfl rfl (Nat.le_of_ble_eq_true rfl) rfl rfl ?_
        refine g_goto (tgt := 25) dX5_readInto_62 rfl ?_
        exact h
      · replace h := h.2 hc
        exact g_sub _ (sub_c (Or.inr rfl) (sub_c (Or.inl rfl) (sub_c (Or.inl rfl) sub_n))) h
theorem bX5_readInto_65 {κ : gK} {M : MM} {Q : Int32 → MM → Prop} (o1 : Nat) (ho1 : twO o1)
    (h : ∀ M1 : MM, M1 = (pt M 11 1 (0 : Int32)) → (Q (M1 11 3) M1)) :
    G κ mX5_readInto 65 [.ref 11, .null, .null] [] M Q := by
  refine g_aload_n (i := 0) dX5_readInto_65 rfl rfl ?_
  refine g_iconst (v := (0 : Int32)) dX5_readInto_66 (by decide) ?_
  refine gp_RX5_15 rfl dX5_readInto_67 sh_11 ?_
  refine g_nmM (fun M1 hM1 => ?_); replace h := h M1 hM1
  refine g_aload_n (i := 0) dX5_readInto_70 rfl rfl ?_
  refine gf_RX5_22 rfl dX5_readInto_71 sh_11 ?_
  exact g_iret dX5_readInto_74 rfl h
theorem eX5_readInto {κ : gK} {M : MM} {Q : Int32 → MM → Prop} (o1 : Nat)
    (h : G κ mX5_readInto 0 [.ref 11, .ref o1, .null] [] M Q) : Cl κ mX5_readInto [.ref 11, .ref o1] M Q := g_entry 1 pl_X5_readInto (Nat.le_of_ble_eq_true rfl) (L := [.ref 11, .ref o1, .null]) rfl (g_sub _ (sub_c (Or.inr rfl) (sub_c (Or.inr rfl) (sub_c (Or.inr rfl) sub_n))) h)
theorem dX5_readClause_0 : decode cX5_readClause 0 = .ok (.aload_n 0, 1) := by decide +kernel
theorem dX5_readClause_1 : decode cX5_readClause 1 = .ok (.invokevirtual 40, 3) := by decide +kernel
theorem dX5_readClause_4 : decode cX5_readClause 4 = .ok (.istore_n 2, 1) := by decide +kernel
theorem dX5_readClause_5 : decode cX5_readClause 5 = .ok (.iload_n 2, 1) := by decide +kernel
theorem dX5_readClause_6 : decode cX5_readClause 6 = .ok (.bipush 110, 2) := by decide +kernel
theorem dX5_readClause_8 : decode cX5_readClause 8 = .ok (.if_icmp .ne 11, 3) := by decide +kernel
theorem dX5_readClause_11 : decode cX5_readClause 11 = .ok (.aload_n 0, 1) := by decide +kernel
theorem dX5_readClause_12 : decode cX5_readClause 12 = .ok (.aload_n 1, 1) := by decide +kernel
theorem dX5_readClause_13 : decode cX5_readClause 13 = .ok (.invokevirtual 44, 3) := by decide +kernel
theorem dX5_readClause_16 : decode cX5_readClause 16 = .ok (.goto 59, 3) := by decide +kernel
theorem dX5_readClause_19 : decode cX5_readClause 19 = .ok (.aload_n 1, 1) := by decide +kernel
theorem dX5_readClause_20 : decode cX5_readClause 20 = .ok (.invokevirtual 47, 3) := by decide +kernel
theorem dX5_readClause_23 : decode cX5_readClause 23 = .ok (.ifCond .ne 15, 3) := by decide +kernel
theorem dX5_readClause_26 : decode cX5_readClause 26 = .ok (.aload_n 0, 1) := by decide +kernel
theorem dX5_readClause_27 : decode cX5_readClause 27 = .ok (.iconst 1, 1) := by decide +kernel
theorem dX5_readClause_28 : decode cX5_readClause 28 = .ok (.aload_n 0, 1) := by decide +kernel
theorem dX5_readClause_29 : decode cX5_readClause 29 = .ok (.getfield 19, 3) := by decide +kernel
theorem dX5_readClause_32 : decode cX5_readClause 32 = .ok (.invokevirtual 51, 3) := by decide +kernel
theorem dX5_readClause_35 : decode cX5_readClause 35 = .ok (.goto 40, 3) := by decide +kernel
theorem dX5_readClause_38 : decode cX5_readClause 38 = .ok (.iload_n 2, 1) := by decide +kernel
theorem dX5_readClause_39 : decode cX5_readClause 39 = .ok (.bipush 112, 2) := by decide +kernel
theorem dX5_readClause_41 : decode cX5_readClause 41 = .ok (.if_icmp .ne 11, 3) := by decide +kernel
theorem dX5_readClause_44 : decode cX5_readClause 44 = .ok (.aload_n 0, 1) := by decide +kernel
theorem dX5_readClause_45 : decode cX5_readClause 45 = .ok (.aload_n 1, 1) := by decide +kernel
theorem dX5_readClause_46 : decode cX5_readClause 46 = .ok (.invokevirtual 55, 3) := by decide +kernel
theorem dX5_readClause_49 : decode cX5_readClause 49 = .ok (.goto 26, 3) := by decide +kernel
theorem dX5_readClause_52 : decode cX5_readClause 52 = .ok (.iload_n 2, 1) := by decide +kernel
theorem dX5_readClause_53 : decode cX5_readClause 53 = .ok (.bipush 109, 2) := by decide +kernel
theorem dX5_readClause_55 : decode cX5_readClause 55 = .ok (.if_icmp .ne 11, 3) := by decide +kernel
theorem dX5_readClause_58 : decode cX5_readClause 58 = .ok (.aload_n 0, 1) := by decide +kernel
theorem dX5_readClause_59 : decode cX5_readClause 59 = .ok (.aload_n 1, 1) := by decide +kernel
theorem dX5_readClause_60 : decode cX5_readClause 60 = .ok (.invokevirtual 58, 3) := by decide +kernel
theorem dX5_readClause_63 : decode cX5_readClause 63 = .ok (.goto 12, 3) := by decide +kernel
theorem dX5_readClause_66 : decode cX5_readClause 66 = .ok (.aload_n 0, 1) := by decide +kernel
theorem dX5_readClause_67 : decode cX5_readClause 67 = .ok (.iconst 1, 1) := by decide +kernel
theorem dX5_readClause_68 : decode cX5_readClause 68 = .ok (.aload_n 0, 1) := by decide +kernel
theorem dX5_readClause_69 : decode cX5_readClause 69 = .ok (.getfield 19, 3) := by decide +kernel
theorem dX5_readClause_72 : decode cX5_readClause 72 = .ok (.invokevirtual 51, 3) := by decide +kernel
theorem dX5_readClause_75 : decode cX5_readClause 75 = .ok (.return_, 1) := by decide +kernel
theorem bX5_readClause_0 {κ : gK} {M : MM} {Q : Int32 → MM → Prop} (o1 : Nat) (ho1 : twO o1)
    (h : Cl κ mX5_letterHere [.ref 11] M (fun r1 M1 => ((r1 = (110 : Int32) → Cl κ mX5_readLayers [.ref 11, .ref o1] M1 (fun _ M2 => G κ mX5_readClause 75 [.null, .null, .null] [] M2 Q)) ∧ (¬ r1 = (110 : Int32) → Cl κ mX9_isThere [.ref o1] M1 (fun r3 M3 => ((r3 = 0 → Cl κ mX5_blame [.ref 11, .int (1 : Int32), .int (M3 11 2)] M3 (fun _ M4 => G κ mX5_readClause 75 [.null, .null, .null] [] M4 Q)) ∧ (¬ r3 = 0 → ((r1 = (112 : Int32) → Cl κ mX5_readPerson [.ref 11, .ref o1] M3 (fun _ M5 => G κ mX5_readClause 75 [.null, .null, .null] [] M5 Q)) ∧ (¬ r1 = (112 : Int32) → ((r1 = (109 : Int32) → Cl κ mX5_readLights [.ref 11, .ref o1] M3 (fun _ M6 => G κ mX5_readClause 75 [.null, .null, .null] [] M6 Q)) ∧ (¬ r1 = (109 : Int32) → Cl κ mX5_blame [.ref 11, .int (1 : Int32), .int (M3 11 2)] M3 (fun _ M7 => G κ mX5_readClause 75 [.null, .null, .null] [] M7 Q)))))))))))) :
    G κ mX5_readClause 0 [.ref 11, .ref o1, .null] [] M Q := by
  refine g_aload_n (i := 0) dX5_readClause_0 rfl rfl ?_
  refine gc_RX5_40 rfl (Nat.le_of_ble_eq_true rfl) dX5_readClause_1 sh_11 (Nat.le_of_ble_eq_true rfl) ?_
  refine Cl.mono h (fun r1 M1 h => ?_)
  refine g_istore_n (i := 2) (L' := [.ref 11, .ref o1, .int r1]) dX5_readClause_4 rfl (Nat.le_of_ble_eq_true rfl) rfl rfl ?_
  refine g_iload_n (i := 2) dX5_readClause_5 rfl rfl ?_
  refine g_bipush (v := (110 : Int32)) dX5_readClause_6 (by decide) ?_
  refine g_icmp_ne (tgt := 19) dX5_readClause_8 rfl ⟨fun hc => ?_, fun hc => ?_⟩
  · replace h := h.1 hc
    refine g_aload_n (i := 0) dX5_readClause_11 rfl rfl ?_
    refine g_aload_n (i := 1) dX5_readClause_12 rfl rfl ?_
    refine gc_RX5_44 rfl (Nat.le_of_ble_eq_true rfl) dX5_readClause_13 sh_11 (Nat.le_of_ble_eq_true rfl) ?_
    refine Cl.mono h (fun r2 M2 h => ?_)
    refine g_goto (tgt := 75) dX5_readClause_16 rfl ?_
    exact g_sub _ (sub_c (Or.inl rfl) (sub_c (Or.inl rfl) (sub_c (Or.inl rfl) sub_n))) h
  · replace h := h.2 hc
    refine g_aload_n (i := 1) dX5_readClause_19 rfl rfl ?_
    refine gc_RX5_47 rfl (Nat.le_of_ble_eq_true rfl) dX5_readClause_20 ho1.1 (Nat.le_of_ble_eq_true rfl) ?_
    refine Cl.mono h (fun r3 M3 h => ?_)
    refine g_if_ne (tgt := 38) dX5_readClause_23 rfl ⟨fun hc => ?_, fun hc => ?_⟩
    · replace h := h.1 hc
      refine g_aload_n (i := 0) dX5_readClause_26 rfl rfl ?_
      refine g_iconst (v := (1 : Int32)) dX5_readClause_27 (by decide) ?_
      refine g_aload_n (i := 0) dX5_readClause_28 rfl rfl ?_
      refine gf_RX5_19 rfl dX5_readClause_29 sh_11 ?_
      refine gc_RX5_51 rfl (Nat.le_of_ble_eq_true rfl) dX5_readClause_32 sh_11 (Nat.le_of_ble_eq_true rfl) ?_
      refine Cl.mono h (fun r4 M4 h => ?_)
      refine g_goto (tgt := 75) dX5_readClause_35 rfl ?_
      exact g_sub _ (sub_c (Or.inl rfl) (sub_c (Or.inl rfl) (sub_c (Or.inl rfl) sub_n))) h
    · replace h := h.2 hc
      refine g_iload_n (i := 2) dX5_readClause_38 rfl rfl ?_
      refine g_bipush (v := (112 : Int32)) dX5_readClause_39 (by decide) ?_
      refine g_icmp_ne (tgt := 52) dX5_readClause_41 rfl ⟨fun hc => ?_, fun hc => ?_⟩
      · replace h := h.1 hc
        refine g_aload_n (i := 0) dX5_readClause_44 rfl rfl ?_
        refine g_aload_n (i := 1) dX5_readClause_45 rfl rfl ?_
        refine gc_RX5_55 rfl (Nat.le_of_ble_eq_true rfl) dX5_readClause_46 sh_11 (Nat.le_of_ble_eq_true rfl) ?_
        refine Cl.mono h (fun r5 M5 h => ?_)
        refine g_goto (tgt := 75) dX5_readClause_49 rfl ?_
        exact g_sub _ (sub_c (Or.inl rfl) (sub_c (Or.inl rfl) (sub_c (Or.inl rfl) sub_n))) h
      · replace h := h.2 hc
        refine g_iload_n (i := 2) dX5_readClause_52 rfl rfl ?_
        refine g_bipush (v := (109 : Int32)) dX5_readClause_53 (by decide) ?_
        refine g_icmp_ne (tgt := 66) dX5_readClause_55 rfl ⟨fun hc => ?_, fun hc => ?_⟩
        · replace h := h.1 hc
          refine g_aload_n (i := 0) dX5_readClause_58 rfl rfl ?_
          refine g_aload_n (i := 1) dX5_readClause_59 rfl rfl ?_
          refine gc_RX5_58 rfl (Nat.le_of_ble_eq_true rfl) dX5_readClause_60 sh_11 (Nat.le_of_ble_eq_true rfl) ?_
          refine Cl.mono h (fun r6 M6 h => ?_)
          refine g_goto (tgt := 75) dX5_readClause_63 rfl ?_
          exact g_sub _ (sub_c (Or.inl rfl) (sub_c (Or.inl rfl) (sub_c (Or.inl rfl) sub_n))) h
        · replace h := h.2 hc
          refine g_aload_n (i := 0) dX5_readClause_66 rfl rfl ?_
          refine g_iconst (v := (1 : Int32)) dX5_readClause_67 (by decide) ?_
          refine g_aload_n (i := 0) dX5_readClause_68 rfl rfl ?_
          refine gf_RX5_19 rfl dX5_readClause_69 sh_11 ?_
          refine gc_RX5_51 rfl (Nat.le_of_ble_eq_true rfl) dX5_readClause_72 sh_11 (Nat.le_of_ble_eq_true rfl) ?_
          refine Cl.mono h (fun r7 M7 h => ?_)
          exact g_sub _ (sub_c (Or.inl rfl) (sub_c (Or.inl rfl) (sub_c (Or.inl rfl) sub_n))) h
theorem bX5_readClause_75 {κ : gK} {M : MM} {Q : Int32 → MM → Prop} (o1 : Nat) (ho1 : twO o1)
    (h : Q 0 M) :
    G κ mX5_readClause 75 [.null, .null, .null] [] M Q := by
  exact g_vret dX5_readClause_75 rfl h
theorem eX5_readClause {κ : gK} {M : MM} {Q : Int32 → MM → Prop} (o1 : Nat)
    (h : G κ mX5_readClause 0 [.ref 11, .ref o1, .null] [] M Q) : Cl κ mX5_readClause [.ref 11, .ref o1] M Q := g_entry 1 pl_X5_readClause (Nat.le_of_ble_eq_true rfl) (L := [.ref 11, .ref o1, .null]) rfl (g_sub _ (sub_c (Or.inr rfl) (sub_c (Or.inr rfl) (sub_c (Or.inr rfl) sub_n))) h)
theorem dX5_readLayers_0 : decode cX5_readLayers 0 = .ok (.aload_n 1, 1) := by decide +kernel
theorem dX5_readLayers_1 : decode cX5_readLayers 1 = .ok (.invokevirtual 47, 3) := by decide +kernel
theorem dX5_readLayers_4 : decode cX5_readLayers 4 = .ok (.ifCond .eq 13, 3) := by decide +kernel
theorem dX5_readLayers_7 : decode cX5_readLayers 7 = .ok (.aload_n 0, 1) := by decide +kernel
theorem dX5_readLayers_8 : decode cX5_readLayers 8 = .ok (.iconst 3, 1) := by decide +kernel
theorem dX5_readLayers_9 : decode cX5_readLayers 9 = .ok (.aload_n 0, 1) := by decide +kernel
theorem dX5_readLayers_10 : decode cX5_readLayers 10 = .ok (.getfield 19, 3) := by decide +kernel
theorem dX5_readLayers_13 : decode cX5_readLayers 13 = .ok (.invokevirtual 51, 3) := by decide +kernel
theorem dX5_readLayers_16 : decode cX5_readLayers 16 = .ok (.return_, 1) := by decide +kernel
theorem dX5_readLayers_17 : decode cX5_readLayers 17 = .ok (.aload_n 0, 1) := by decide +kernel
theorem dX5_readLayers_18 : decode cX5_readLayers 18 = .ok (.dup, 1) := by decide +kernel
theorem dX5_readLayers_19 : decode cX5_readLayers 19 = .ok (.getfield 19, 3) := by decide +kernel
theorem dX5_readLayers_22 : decode cX5_readLayers 22 = .ok (.iconst 1, 1) := by decide +kernel
theorem dX5_readLayers_23 : decode cX5_readLayers 23 = .ok (.iadd, 1) := by decide +kernel
theorem dX5_readLayers_24 : decode cX5_readLayers 24 = .ok (.putfield 19, 3) := by decide +kernel
theorem dX5_readLayers_27 : decode cX5_readLayers 27 = .ok (.aload_n 1, 1) := by decide +kernel
theorem dX5_readLayers_28 : decode cX5_readLayers 28 = .ok (.aload_n 0, 1) := by decide +kernel
theorem dX5_readLayers_29 : decode cX5_readLayers 29 = .ok (.iconst 2, 1) := by decide +kernel
theorem dX5_readLayers_30 : decode cX5_readLayers 30 = .ok (.bipush 9, 2) := by decide +kernel
theorem dX5_readLayers_32 : decode cX5_readLayers 32 = .ok (.invokevirtual 61, 3) := by decide +kernel
theorem dX5_readLayers_35 : decode cX5_readLayers 35 = .ok (.putfield 65, 3) := by decide +kernel
theorem dX5_readLayers_38 : decode cX5_readLayers 38 = .ok (.aload_n 1, 1) := by decide +kernel
theorem dX5_readLayers_39 : decode cX5_readLayers 39 = .ok (.aload_n 0, 1) := by decide +kernel
theorem dX5_readLayers_40 : decode cX5_readLayers 40 = .ok (.iconst 0, 1) := by decide +kernel
theorem dX5_readLayers_41 : decode cX5_readLayers 41 = .ok (.aload_n 1, 1) := by decide +kernel
theorem dX5_readLayers_42 : decode cX5_readLayers 42 = .ok (.getfield 65, 3) := by decide +kernel
theorem dX5_readLayers_45 : decode cX5_readLayers 45 = .ok (.iconst 1, 1) := by decide +kernel
theorem dX5_readLayers_46 : decode cX5_readLayers 46 = .ok (.isub, 1) := by decide +kernel
theorem dX5_readLayers_47 : decode cX5_readLayers 47 = .ok (.invokevirtual 61, 3) := by decide +kernel
theorem dX5_readLayers_50 : decode cX5_readLayers 50 = .ok (.putfield 68, 3) := by decide +kernel
theorem dX5_readLayers_53 : decode cX5_readLayers 53 = .ok (.aload_n 0, 1) := by decide +kernel
theorem dX5_readLayers_54 : decode cX5_readLayers 54 = .ok (.bipush 59, 2) := by decide +kernel
theorem dX5_readLayers_56 : decode cX5_readLayers 56 = .ok (.invokevirtual 71, 3) := by decide +kernel
theorem dX5_readLayers_59 : decode cX5_readLayers 59 = .ok (.return_, 1) := by decide +kernel
theorem bX5_readLayers_0 {κ : gK} {M : MM} {Q : Int32 → MM → Prop} (o1 : Nat) (ho1 : twO o1)
    (h : Cl κ mX9_isThere [.ref o1] M (fun r1 M1 => ((r1 = 0 → ∀ M2 : MM, M2 = (pt M1 11 2 ((M1 11 2) + (1 : Int32))) → (Cl κ mX5_readNumber [.ref 11, .int (2 : Int32), .int (9 : Int32)] M2 (fun r3 M3 => ∀ M4 : MM, M4 = (pt M3 o1 4 r3) → (Cl κ mX5_readNumber [.ref 11, .int (0 : Int32), .int ((M4 o1 4) - (1 : Int32))] M4 (fun r5 M5 => ∀ M6 : MM, M6 = (pt M5 o1 5 r5) → (Cl κ mX5_readWord [.ref 11, .int (59 : Int32)] M6 (fun _ M7 => Q 0 M7))))))) ∧ (¬ r1 = 0 → Cl κ mX5_blame [.ref 11, .int (3 : Int32), .int (M1 11 2)] M1 (fun _ M8 => Q 0 M8))))) :
    G κ mX5_readLayers 0 [.ref 11, .ref o1] [] M Q := by
  refine g_aload_n (i := 1) dX5_readLayers_0 rfl rfl ?_
  refine gc_RX5_47 rfl (Nat.le_of_ble_eq_true rfl) dX5_readLayers_1 ho1.1 (Nat.le_of_ble_eq_true rfl) ?_
  refine Cl.mono h (fun r1 M1 h => ?_)
  refine g_if_eq (tgt := 17) dX5_readLayers_4 rfl ⟨fun hc => ?_, fun hc => ?_⟩
  · replace h := h.1 hc
    refine g_aload_n (i := 0) dX5_readLayers_17 rfl rfl ?_
    refine g_dup dX5_readLayers_18 rfl ?_
    refine gf_RX5_19 rfl dX5_readLayers_19 sh_11 ?_
    refine g_iconst (v := (1 : Int32)) dX5_readLayers_22 (by decide) ?_
    refine g_iadd dX5_readLayers_23 ?_
    refine gp_RX5_19 rfl dX5_readLayers_24 sh_11 ?_
    refine g_nmM (fun M2 hM2 => ?_); replace h := h M2 hM2
    refine g_aload_n (i := 1) dX5_readLayers_27 rfl rfl ?_
    refine g_aload_n (i := 0) dX5_readLayers_28 rfl rfl ?_
    refine g_iconst (v := (2 : Int32)) dX5_readLayers_29 (by decide) ?_
    refine g_bipush (v := (9 : Int32)) dX5_readLayers_30 (by decide) ?_
    refine gc_RX5_61 rfl (Nat.le_of_ble_eq_true rfl) dX5_readLayers_32 sh_11 (Nat.le_of_ble_eq_true rfl) ?_
    refine Cl.mono h (fun r3 M3 h => ?_)
    refine gp_RX5_65 rfl dX5_readLayers_35 ho1.1 ?_
    refine g_nmM (fun M4 hM4 => ?_); replace h := h M4 hM4
    refine g_aload_n (i := 1) dX5_readLayers_38 rfl rfl ?_
    refine g_aload_n (i := 0) dX5_readLayers_39 rfl rfl ?_
    refine g_iconst (v := (0 : Int32)) dX5_readLayers_40 (by decide) ?_
    refine g_aload_n (i := 1) dX5_readLayers_41 rfl rfl ?_
    refine gf_RX5_65 rfl dX5_readLayers_42 ho1.1 ?_
    refine g_iconst (v := (1 : Int32)) dX5_readLayers_45 (by decide) ?_
    refine g_isub dX5_readLayers_46 ?_
    refine gc_RX5_61 rfl (Nat.le_of_ble_eq_true rfl) dX5_readLayers_47 sh_11 (Nat.le_of_ble_eq_true rfl) ?_
    refine Cl.mono h (fun r5 M5 h => ?_)
    refine gp_RX5_68 rfl dX5_readLayers_50 ho1.1 ?_
    refine g_nmM (fun M6 hM6 => ?_); replace h := h M6 hM6
    refine g_aload_n (i := 0) dX5_readLayers_53 rfl rfl ?_
    refine g_bipush (v := (59 : Int32)) dX5_readLayers_54 (by decide) ?_
    refine gc_RX5_71 rfl (Nat.le_of_ble_eq_true rfl) dX5_readLayers_56 sh_11 (Nat.le_of_ble_eq_true rfl) ?_
    refine Cl.mono h (fun r7 M7 h => ?_)
    exact g_vret dX5_readLayers_59 rfl h
  · replace h := h.2 hc
    refine g_aload_n (i := 0) dX5_readLayers_7 rfl rfl ?_
    refine g_iconst (v := (3 : Int32)) dX5_readLayers_8 (by decide) ?_
    refine g_aload_n (i := 0) dX5_readLayers_9 rfl rfl ?_
    refine gf_RX5_19 rfl dX5_readLayers_10 sh_11 ?_
    refine gc_RX5_51 rfl (Nat.le_of_ble_eq_true rfl) dX5_readLayers_13 sh_11 (Nat.le_of_ble_eq_true rfl) ?_
    refine Cl.mono h (fun r8 M8 h => ?_)
    exact g_vret dX5_readLayers_16 rfl h
theorem eX5_readLayers {κ : gK} {M : MM} {Q : Int32 → MM → Prop} (o1 : Nat)
    (h : G κ mX5_readLayers 0 [.ref 11, .ref o1] [] M Q) : Cl κ mX5_readLayers [.ref 11, .ref o1] M Q := g_entry 0 pl_X5_readLayers (Nat.le_of_ble_eq_true rfl) (L := [.ref 11, .ref o1]) rfl (g_sub _ (sub_c (Or.inr rfl) (sub_c (Or.inr rfl) sub_n)) h)
theorem dX5_readPerson_0 : decode cX5_readPerson 0 = .ok (.aload_n 1, 1) := by decide +kernel
theorem dX5_readPerson_1 : decode cX5_readPerson 1 = .ok (.getfield 75, 3) := by decide +kernel
theorem dX5_readPerson_4 : decode cX5_readPerson 4 = .ok (.bipush 8, 2) := by decide +kernel
theorem dX5_readPerson_6 : decode cX5_readPerson 6 = .ok (.if_icmp .lt 13, 3) := by decide +kernel
theorem dX5_readPerson_9 : decode cX5_readPerson 9 = .ok (.aload_n 0, 1) := by decide +kernel
theorem dX5_readPerson_10 : decode cX5_readPerson 10 = .ok (.iconst 3, 1) := by decide +kernel
theorem dX5_readPerson_11 : decode cX5_readPerson 11 = .ok (.aload_n 0, 1) := by decide +kernel
theorem dX5_readPerson_12 : decode cX5_readPerson 12 = .ok (.getfield 19, 3) := by decide +kernel
theorem dX5_readPerson_15 : decode cX5_readPerson 15 = .ok (.invokevirtual 51, 3) := by decide +kernel
theorem dX5_readPerson_18 : decode cX5_readPerson 18 = .ok (.return_, 1) := by decide +kernel
theorem dX5_readPerson_19 : decode cX5_readPerson 19 = .ok (.aload_n 0, 1) := by decide +kernel
theorem dX5_readPerson_20 : decode cX5_readPerson 20 = .ok (.dup, 1) := by decide +kernel
theorem dX5_readPerson_21 : decode cX5_readPerson 21 = .ok (.getfield 19, 3) := by decide +kernel
theorem dX5_readPerson_24 : decode cX5_readPerson 24 = .ok (.iconst 1, 1) := by decide +kernel
theorem dX5_readPerson_25 : decode cX5_readPerson 25 = .ok (.iadd, 1) := by decide +kernel
theorem dX5_readPerson_26 : decode cX5_readPerson 26 = .ok (.putfield 19, 3) := by decide +kernel
theorem dX5_readPerson_29 : decode cX5_readPerson 29 = .ok (.aload_n 1, 1) := by decide +kernel
theorem dX5_readPerson_30 : decode cX5_readPerson 30 = .ok (.getfield 75, 3) := by decide +kernel
theorem dX5_readPerson_33 : decode cX5_readPerson 33 = .ok (.istore_n 2, 1) := by decide +kernel
theorem dX5_readPerson_34 : decode cX5_readPerson 34 = .ok (.aload_n 1, 1) := by decide +kernel
theorem dX5_readPerson_35 : decode cX5_readPerson 35 = .ok (.getfield 78, 3) := by decide +kernel
theorem dX5_readPerson_38 : decode cX5_readPerson 38 = .ok (.iload_n 2, 1) := by decide +kernel
theorem dX5_readPerson_39 : decode cX5_readPerson 39 = .ok (.aload_n 0, 1) := by decide +kernel
theorem dX5_readPerson_40 : decode cX5_readPerson 40 = .ok (.iconst 0, 1) := by decide +kernel
theorem dX5_readPerson_41 : decode cX5_readPerson 41 = .ok (.iconst 4, 1) := by decide +kernel
theorem dX5_readPerson_42 : decode cX5_readPerson 42 = .ok (.invokevirtual 61, 3) := by decide +kernel
theorem dX5_readPerson_45 : decode cX5_readPerson 45 = .ok (.iastore, 1) := by decide +kernel
theorem dX5_readPerson_46 : decode cX5_readPerson 46 = .ok (.aload_n 1, 1) := by decide +kernel
theorem dX5_readPerson_47 : decode cX5_readPerson 47 = .ok (.getfield 81, 3) := by decide +kernel
theorem dX5_readPerson_50 : decode cX5_readPerson 50 = .ok (.iload_n 2, 1) := by decide +kernel
theorem dX5_readPerson_51 : decode cX5_readPerson 51 = .ok (.aload_n 0, 1) := by decide +kernel
theorem dX5_readPerson_52 : decode cX5_readPerson 52 = .ok (.iconst 0, 1) := by decide +kernel
theorem dX5_readPerson_53 : decode cX5_readPerson 53 = .ok (.aload_n 1, 1) := by decide +kernel
theorem dX5_readPerson_54 : decode cX5_readPerson 54 = .ok (.getfield 65, 3) := by decide +kernel
theorem dX5_readPerson_57 : decode cX5_readPerson 57 = .ok (.iconst 1, 1) := by decide +kernel
theorem dX5_readPerson_58 : decode cX5_readPerson 58 = .ok (.isub, 1) := by decide +kernel
theorem dX5_readPerson_59 : decode cX5_readPerson 59 = .ok (.invokevirtual 61, 3) := by decide +kernel
theorem dX5_readPerson_62 : decode cX5_readPerson 62 = .ok (.iastore, 1) := by decide +kernel
theorem dX5_readPerson_63 : decode cX5_readPerson 63 = .ok (.aload_n 1, 1) := by decide +kernel
theorem dX5_readPerson_64 : decode cX5_readPerson 64 = .ok (.getfield 84, 3) := by decide +kernel
theorem dX5_readPerson_67 : decode cX5_readPerson 67 = .ok (.iload_n 2, 1) := by decide +kernel
theorem dX5_readPerson_68 : decode cX5_readPerson 68 = .ok (.aload_n 0, 1) := by decide +kernel
theorem dX5_readPerson_69 : decode cX5_readPerson 69 = .ok (.iconst 0, 1) := by decide +kernel
theorem dX5_readPerson_70 : decode cX5_readPerson 70 = .ok (.bipush 9, 2) := by decide +kernel
theorem dX5_readPerson_72 : decode cX5_readPerson 72 = .ok (.invokevirtual 61, 3) := by decide +kernel
theorem dX5_readPerson_75 : decode cX5_readPerson 75 = .ok (.iastore, 1) := by decide +kernel
theorem dX5_readPerson_76 : decode cX5_readPerson 76 = .ok (.aload_n 0, 1) := by decide +kernel
theorem dX5_readPerson_77 : decode cX5_readPerson 77 = .ok (.bipush 59, 2) := by decide +kernel
theorem dX5_readPerson_79 : decode cX5_readPerson 79 = .ok (.invokevirtual 71, 3) := by decide +kernel
theorem dX5_readPerson_82 : decode cX5_readPerson 82 = .ok (.aload_n 1, 1) := by decide +kernel
theorem dX5_readPerson_83 : decode cX5_readPerson 83 = .ok (.dup, 1) := by decide +kernel
theorem dX5_readPerson_84 : decode cX5_readPerson 84 = .ok (.getfield 75, 3) := by decide +kernel
theorem dX5_readPerson_87 : decode cX5_readPerson 87 = .ok (.iconst 1, 1) := by decide +kernel
theorem dX5_readPerson_88 : decode cX5_readPerson 88 = .ok (.iadd, 1) := by decide +kernel
theorem dX5_readPerson_89 : decode cX5_readPerson 89 = .ok (.putfield 75, 3) := by decide +kernel
theorem dX5_readPerson_92 : decode cX5_readPerson 92 = .ok (.return_, 1) := by decide +kernel
theorem bX5_readPerson_0 {κ : gK} {M : MM} {Q : Int32 → MM → Prop} (o1 : Nat) (ho1 : twO o1)
    (h : (((M o1 6) < (8 : Int32) → ∀ M1 : MM, M1 = (pt M 11 2 ((M 11 2) + (1 : Int32))) → (Cl κ mX5_readNumber [.ref 11, .int (0 : Int32), .int (4 : Int32)] M1 (fun r2 M2 => (vp_in (M1 o1 6) 8) ∧ (∀ M3 : MM, M3 = (pt M2 (o1 + 1) ((M1 o1 6)).toNatClampNeg r2) → (Cl κ mX5_readNumber [.ref 11, .int (0 : Int32), .int ((M3 o1 4) - (1 : Int32))] M3 (fun r4 M4 => ∀ M5 : MM, M5 = (pt M4 (o1 + 2) ((M1 o1 6)).toNatClampNeg r4) → (Cl κ mX5_readNumber [.ref 11, .int (0 : Int32), .int (9 : Int32)] M5 (fun r6 M6 => ∀ M7 : MM, M7 = (pt M6 (o1 + 3) ((M1 o1 6)).toNatClampNeg r6) → (Cl κ mX5_readWord [.ref 11, .int (59 : Int32)] M7 (fun _ M8 => ∀ M9 : MM, M9 = (pt M8 o1 6 ((M8 o1 6) + (1 : Int32))) → (Q 0 M9))))))))))) ∧ (¬ (M o1 6) < (8 : Int32) → Cl κ mX5_blame [.ref 11, .int (3 : Int32), .int (M 11 2)] M (fun _ M10 => Q 0 M10)))) :
    G κ mX5_readPerson 0 [.ref 11, .ref o1, .null] [] M Q := by
  refine g_aload_n (i := 1) dX5_readPerson_0 rfl rfl ?_
  refine gf_RX5_75 rfl dX5_readPerson_1 ho1.1 ?_
  refine g_bipush (v := (8 : Int32)) dX5_readPerson_4 (by decide) ?_
  refine g_icmp_lt (tgt := 19) dX5_readPerson_6 rfl ⟨fun hc => ?_, fun hc => ?_⟩
  · replace h := h.1 hc
    refine g_aload_n (i := 0) dX5_readPerson_19 rfl rfl ?_
    refine g_dup dX5_readPerson_20 rfl ?_
    refine gf_RX5_19 rfl dX5_readPerson_21 sh_11 ?_
    refine g_iconst (v := (1 : Int32)) dX5_readPerson_24 (by decide) ?_
    refine g_iadd dX5_readPerson_25 ?_
    refine gp_RX5_19 rfl dX5_readPerson_26 sh_11 ?_
    refine g_nmM (fun M1 hM1 => ?_); replace h := h M1 hM1
    refine g_aload_n (i := 1) dX5_readPerson_29 rfl rfl ?_
    refine gf_RX5_75 rfl dX5_readPerson_30 ho1.1 ?_
    refine g_istore_n (i := 2) (L' := [.ref 11, .ref o1, .int (M1 o1 6)]) dX5_readPerson_33 rfl (Nat.le_of_ble_eq_true rfl) rfl rfl ?_
    refine g_aload_n (i := 1) dX5_readPerson_34 rfl rfl ?_
    refine gf_RX5_78 rfl dX5_readPerson_35 ho1.1 ?_
    refine g_iload_n (i := 2) dX5_readPerson_38 rfl rfl ?_
    refine g_aload_n (i := 0) dX5_readPerson_39 rfl rfl ?_
    refine g_iconst (v := (0 : Int32)) dX5_readPerson_40 (by decide) ?_
    refine g_iconst (v := (4 : Int32)) dX5_readPerson_41 (by decide) ?_
    refine gc_RX5_61 rfl (Nat.le_of_ble_eq_true rfl) dX5_readPerson_42 sh_11 (Nat.le_of_ble_eq_true rfl) ?_
    refine Cl.mono h (fun r2 M2 h => ?_)
    have hv1 := h.1; replace h := h.2
    refine g_iastP dX5_readPerson_45 ho1.2.1 hv1 ?_
    refine g_nmM (fun M3 hM3 => ?_); replace h := h M3 hM3
    refine g_aload_n (i := 1) dX5_readPerson_46 rfl rfl ?_
    refine gf_RX5_81 rfl dX5_readPerson_47 ho1.1 ?_
    refine g_iload_n (i := 2) dX5_readPerson_50 rfl rfl ?_
    refine g_aload_n (i := 0) dX5_readPerson_51 rfl rfl ?_
    refine g_iconst (v := (0 : Int32)) dX5_readPerson_52 (by decide) ?_
    refine g_aload_n (i := 1) dX5_readPerson_53 rfl rfl ?_
    refine gf_RX5_65 rfl dX5_readPerson_54 ho1.1 ?_
    refine g_iconst (v := (1 : Int32)) dX5_readPerson_57 (by decide) ?_
    refine g_isub dX5_readPerson_58 ?_
    refine gc_RX5_61 rfl (Nat.le_of_ble_eq_true rfl) dX5_readPerson_59 sh_11 (Nat.le_of_ble_eq_true rfl) ?_
    refine Cl.mono h (fun r4 M4 h => ?_)
    refine g_iastP dX5_readPerson_62 ho1.2.2.1 hv1 ?_
    refine g_nmM (fun M5 hM5 => ?_); replace h := h M5 hM5
    refine g_aload_n (i := 1) dX5_readPerson_63 rfl rfl ?_
    refine gf_RX5_84 rfl dX5_readPerson_64 ho1.1 ?_
    refine g_iload_n (i := 2) dX5_readPerson_67 rfl rfl ?_
    refine g_aload_n (i := 0) dX5_readPerson_68 rfl rfl ?_
    refine g_iconst (v := (0 : Int32)) dX5_readPerson_69 (by decide) ?_
    refine g_bipush (v := (9 : Int32)) dX5_readPerson_70 (by decide) ?_
    refine gc_RX5_61 rfl (Nat.le_of_ble_eq_true rfl) dX5_readPerson_72 sh_11 (Nat.le_of_ble_eq_true rfl) ?_
    refine Cl.mono h (fun r6 M6 h => ?_)
    refine g_iastP dX5_readPerson_75 ho1.2.2.2.1 hv1 ?_
    refine g_nmM (fun M7 hM7 => ?_); replace h := h M7 hM7
    refine g_aload_n (i := 0) dX5_readPerson_76 rfl rfl ?_
    refine g_bipush (v := (59 : Int32)) dX5_readPerson_77 (by decide) ?_
    refine gc_RX5_71 rfl (Nat.le_of_ble_eq_true rfl) dX5_readPerson_79 sh_11 (Nat.le_of_ble_eq_true rfl) ?_
    refine Cl.mono h (fun r8 M8 h => ?_)
    refine g_aload_n (i := 1) dX5_readPerson_82 rfl rfl ?_
    refine g_dup dX5_readPerson_83 rfl ?_
    refine gf_RX5_75 rfl dX5_readPerson_84 ho1.1 ?_
    refine g_iconst (v := (1 : Int32)) dX5_readPerson_87 (by decide) ?_
    refine g_iadd dX5_readPerson_88 ?_
    refine gp_RX5_75 rfl dX5_readPerson_89 ho1.1 ?_
    refine g_nmM (fun M9 hM9 => ?_); replace h := h M9 hM9
    exact g_vret dX5_readPerson_92 rfl h
  · replace h := h.2 hc
    refine g_aload_n (i := 0) dX5_readPerson_9 rfl rfl ?_
    refine g_iconst (v := (3 : Int32)) dX5_readPerson_10 (by decide) ?_
    refine g_aload_n (i := 0) dX5_readPerson_11 rfl rfl ?_
    refine gf_RX5_19 rfl dX5_readPerson_12 sh_11 ?_
    refine gc_RX5_51 rfl (Nat.le_of_ble_eq_true rfl) dX5_readPerson_15 sh_11 (Nat.le_of_ble_eq_true rfl) ?_
    refine Cl.mono h (fun r10 M10 h => ?_)
    exact g_vret dX5_readPerson_18 rfl h
theorem eX5_readPerson {κ : gK} {M : MM} {Q : Int32 → MM → Prop} (o1 : Nat)
    (h : G κ mX5_readPerson 0 [.ref 11, .ref o1, .null] [] M Q) : Cl κ mX5_readPerson [.ref 11, .ref o1] M Q := g_entry 1 pl_X5_readPerson (Nat.le_of_ble_eq_true rfl) (L := [.ref 11, .ref o1, .null]) rfl (g_sub _ (sub_c (Or.inr rfl) (sub_c (Or.inr rfl) (sub_c (Or.inr rfl) sub_n))) h)
theorem dX5_readLights_0 : decode cX5_readLights 0 = .ok (.aload_n 1, 1) := by decide +kernel
theorem dX5_readLights_1 : decode cX5_readLights 1 = .ok (.getfield 87, 3) := by decide +kernel
theorem dX5_readLights_4 : decode cX5_readLights 4 = .ok (.ifCond .le 13, 3) := by decide +kernel
theorem dX5_readLights_7 : decode cX5_readLights 7 = .ok (.aload_n 0, 1) := by decide +kernel
theorem dX5_readLights_8 : decode cX5_readLights 8 = .ok (.iconst 3, 1) := by decide +kernel
theorem dX5_readLights_9 : decode cX5_readLights 9 = .ok (.aload_n 0, 1) := by decide +kernel
theorem dX5_readLights_10 : decode cX5_readLights 10 = .ok (.getfield 19, 3) := by decide +kernel
theorem dX5_readLights_13 : decode cX5_readLights 13 = .ok (.invokevirtual 51, 3) := by decide +kernel
theorem dX5_readLights_16 : decode cX5_readLights 16 = .ok (.return_, 1) := by decide +kernel
theorem dX5_readLights_17 : decode cX5_readLights 17 = .ok (.aload_n 0, 1) := by decide +kernel
theorem dX5_readLights_18 : decode cX5_readLights 18 = .ok (.dup, 1) := by decide +kernel
theorem dX5_readLights_19 : decode cX5_readLights 19 = .ok (.getfield 19, 3) := by decide +kernel
theorem dX5_readLights_22 : decode cX5_readLights 22 = .ok (.iconst 1, 1) := by decide +kernel
theorem dX5_readLights_23 : decode cX5_readLights 23 = .ok (.iadd, 1) := by decide +kernel
theorem dX5_readLights_24 : decode cX5_readLights 24 = .ok (.putfield 19, 3) := by decide +kernel
theorem dX5_readLights_27 : decode cX5_readLights 27 = .ok (.iconst 0, 1) := by decide +kernel
theorem dX5_readLights_28 : decode cX5_readLights 28 = .ok (.istore_n 2, 1) := by decide +kernel
theorem dX5_readLights_29 : decode cX5_readLights 29 = .ok (.iload_n 2, 1) := by decide +kernel
theorem dX5_readLights_30 : decode cX5_readLights 30 = .ok (.bipush 12, 2) := by decide +kernel
theorem dX5_readLights_32 : decode cX5_readLights 32 = .ok (.if_icmp .ge 71, 3) := by decide +kernel
theorem dX5_readLights_35 : decode cX5_readLights 35 = .ok (.aload_n 1, 1) := by decide +kernel
theorem dX5_readLights_36 : decode cX5_readLights 36 = .ok (.getfield 90, 3) := by decide +kernel
theorem dX5_readLights_39 : decode cX5_readLights 39 = .ok (.iload_n 2, 1) := by decide +kernel
theorem dX5_readLights_40 : decode cX5_readLights 40 = .ok (.aload_n 0, 1) := by decide +kernel
theorem dX5_readLights_41 : decode cX5_readLights 41 = .ok (.iconst 1, 1) := by decide +kernel
theorem dX5_readLights_42 : decode cX5_readLights 42 = .ok (.bipush 9, 2) := by decide +kernel
theorem dX5_readLights_44 : decode cX5_readLights 44 = .ok (.invokevirtual 61, 3) := by decide +kernel
theorem dX5_readLights_47 : decode cX5_readLights 47 = .ok (.iastore, 1) := by decide +kernel
theorem dX5_readLights_48 : decode cX5_readLights 48 = .ok (.aload_n 1, 1) := by decide +kernel
theorem dX5_readLights_49 : decode cX5_readLights 49 = .ok (.dup, 1) := by decide +kernel
theorem dX5_readLights_50 : decode cX5_readLights 50 = .ok (.getfield 87, 3) := by decide +kernel
theorem dX5_readLights_53 : decode cX5_readLights 53 = .ok (.iconst 1, 1) := by decide +kernel
theorem dX5_readLights_54 : decode cX5_readLights 54 = .ok (.iadd, 1) := by decide +kernel
theorem dX5_readLights_55 : decode cX5_readLights 55 = .ok (.putfield 87, 3) := by decide +kernel
theorem dX5_readLights_58 : decode cX5_readLights 58 = .ok (.aload_n 0, 1) := by decide +kernel
theorem dX5_readLights_59 : decode cX5_readLights 59 = .ok (.invokevirtual 33, 3) := by decide +kernel
theorem dX5_readLights_62 : decode cX5_readLights 62 = .ok (.aload_n 0, 1) := by decide +kernel
theorem dX5_readLights_63 : decode cX5_readLights 63 = .ok (.getfield 22, 3) := by decide +kernel
theorem dX5_readLights_66 : decode cX5_readLights 66 = .ok (.ifCond .ne 37, 3) := by decide +kernel
theorem dX5_readLights_69 : decode cX5_readLights 69 = .ok (.aload_n 0, 1) := by decide +kernel
theorem dX5_readLights_70 : decode cX5_readLights 70 = .ok (.invokevirtual 40, 3) := by decide +kernel
theorem dX5_readLights_73 : decode cX5_readLights 73 = .ok (.bipush 44, 2) := by decide +kernel
theorem dX5_readLights_75 : decode cX5_readLights 75 = .ok (.if_icmp .ne 28, 3) := by decide +kernel
theorem dX5_readLights_78 : decode cX5_readLights 78 = .ok (.iload_n 2, 1) := by decide +kernel
theorem dX5_readLights_79 : decode cX5_readLights 79 = .ok (.bipush 11, 2) := by decide +kernel
theorem dX5_readLights_81 : decode cX5_readLights 81 = .ok (.if_icmp .ne 6, 3) := by decide +kernel
theorem dX5_readLights_84 : decode cX5_readLights 84 = .ok (.goto 19, 3) := by decide +kernel
theorem dX5_readLights_87 : decode cX5_readLights 87 = .ok (.aload_n 0, 1) := by decide +kernel
theorem dX5_readLights_88 : decode cX5_readLights 88 = .ok (.dup, 1) := by decide +kernel
theorem dX5_readLights_89 : decode cX5_readLights 89 = .ok (.getfield 19, 3) := by decide +kernel
theorem dX5_readLights_92 : decode cX5_readLights 92 = .ok (.iconst 1, 1) := by decide +kernel
theorem dX5_readLights_93 : decode cX5_readLights 93 = .ok (.iadd, 1) := by decide +kernel
theorem dX5_readLights_94 : decode cX5_readLights 94 = .ok (.putfield 19, 3) := by decide +kernel
theorem dX5_readLights_97 : decode cX5_readLights 97 = .ok (.iinc 2 1, 3) := by decide +kernel
theorem dX5_readLights_100 : decode cX5_readLights 100 = .ok (.goto (-71), 3) := by decide +kernel
theorem dX5_readLights_103 : decode cX5_readLights 103 = .ok (.aload_n 0, 1) := by decide +kernel
theorem dX5_readLights_104 : decode cX5_readLights 104 = .ok (.bipush 59, 2) := by decide +kernel
theorem dX5_readLights_106 : decode cX5_readLights 106 = .ok (.invokevirtual 71, 3) := by decide +kernel
theorem dX5_readLights_109 : decode cX5_readLights 109 = .ok (.return_, 1) := by decide +kernel
theorem bX5_readLights_0 {κ : gK} {M : MM} {Q : Int32 → MM → Prop} (o1 : Nat) (ho1 : twO o1)
    (h : (((M o1 7) ≤ 0 → ∀ M1 : MM, M1 = (pt M 11 2 ((M 11 2) + (1 : Int32))) → (G κ mX5_readLights 29 [.ref 11, .ref o1, .int (0 : Int32)] [] M1 Q)) ∧ (¬ (M o1 7) ≤ 0 → Cl κ mX5_blame [.ref 11, .int (3 : Int32), .int (M 11 2)] M (fun _ M2 => Q 0 M2)))) :
    G κ mX5_readLights 0 [.ref 11, .ref o1, .null] [] M Q := by
  refine g_aload_n (i := 1) dX5_readLights_0 rfl rfl ?_
  refine gf_RX5_87 rfl dX5_readLights_1 ho1.1 ?_
  refine g_if_le (tgt := 17) dX5_readLights_4 rfl ⟨fun hc => ?_, fun hc => ?_⟩
  · replace h := h.1 hc
    refine g_aload_n (i := 0) dX5_readLights_17 rfl rfl ?_
    refine g_dup dX5_readLights_18 rfl ?_
    refine gf_RX5_19 rfl dX5_readLights_19 sh_11 ?_
    refine g_iconst (v := (1 : Int32)) dX5_readLights_22 (by decide) ?_
    refine g_iadd dX5_readLights_23 ?_
    refine gp_RX5_19 rfl dX5_readLights_24 sh_11 ?_
    refine g_nmM (fun M1 hM1 => ?_); replace h := h M1 hM1
    refine g_iconst (v := (0 : Int32)) dX5_readLights_27 (by decide) ?_
    refine g_istore_n (i := 2) (L' := [.ref 11, .ref o1, .int (0 : Int32)]) dX5_readLights_28 rfl (Nat.le_of_ble_eq_true rfl) rfl rfl ?_
    exact h
  · replace h := h.2 hc
    refine g_aload_n (i := 0) dX5_readLights_7 rfl rfl ?_
    refine g_iconst (v := (3 : Int32)) dX5_readLights_8 (by decide) ?_
    refine g_aload_n (i := 0) dX5_readLights_9 rfl rfl ?_
    refine gf_RX5_19 rfl dX5_readLights_10 sh_11 ?_
    refine gc_RX5_51 rfl (Nat.le_of_ble_eq_true rfl) dX5_readLights_13 sh_11 (Nat.le_of_ble_eq_true rfl) ?_
    refine Cl.mono h (fun r2 M2 h => ?_)
    exact g_vret dX5_readLights_16 rfl h
theorem bX5_readLights_29 {κ : gK} {M : MM} {Q : Int32 → MM → Prop} (o1 : Nat) (ho1 : twO o1) (l2 : Int32)
    (h : (((12 : Int32) ≤ l2 → G κ mX5_readLights 103 [.ref 11, .null, .null] [] M Q) ∧ (¬ (12 : Int32) ≤ l2 → Cl κ mX5_readNumber [.ref 11, .int (1 : Int32), .int (9 : Int32)] M (fun r1 M1 => (vp_in l2 12) ∧ (∀ M2 : MM, M2 = (pt M1 (o1 + 4) (l2).toNatClampNeg r1) → (∀ M3 : MM, M3 = (pt M2 o1 7 ((M2 o1 7) + (1 : Int32))) → (Cl κ mX5_skipBlanks [.ref 11] M3 (fun _ M4 => (((M4 11 3) = 0 → Cl κ mX5_letterHere [.ref 11] M4 (fun r5 M5 => ((r5 = (44 : Int32) → ((l2 = (11 : Int32) → G κ mX5_readLights 103 [.ref 11, .null, .null] [] M5 Q) ∧ (¬ l2 = (11 : Int32) → ∀ M6 : MM, M6 = (pt M5 11 2 ((M5 11 2) + (1 : Int32))) → (G κ mX5_readLights 29 [.ref 11, .ref o1, .int (l2 + 1)] [] M6 Q)))) ∧ (¬ r5 = (44 : Int32) → G κ mX5_readLights 103 [.ref 11, .null, .null] [] M5 Q)))) ∧ (¬ (M4 11 3) = 0 → G κ mX5_readLights 103 [.ref 11, .null, .null] [] M4 Q)))))))))) :
    G κ mX5_readLights 29 [.ref 11, .ref o1, .int l2] [] M Q := by
  refine g_iload_n (i := 2) dX5_readLights_29 rfl rfl ?_
  refine g_bipush (v := (12 : Int32)) dX5_readLights_30 (by decide) ?_
  refine g_icmp_ge (tgt := 103) dX5_readLights_32 rfl ⟨fun hc => ?_, fun hc => ?_⟩
  · replace h := h.1 hc
    exact g_sub _ (sub_c (Or.inr rfl) (sub_c (Or.inl rfl) (sub_c (Or.inl rfl) sub_n))) h
  · replace h := h.2 hc
    refine g_aload_n (i := 1) dX5_readLights_35 rfl rfl ?_
    refine gf_RX5_90 rfl dX5_readLights_36 ho1.1 ?_
    refine g_iload_n (i := 2) dX5_readLights_39 rfl rfl ?_
    refine g_aload_n (i := 0) dX5_readLights_40 rfl rfl ?_
    refine g_iconst (v := (1 : Int32)) dX5_readLights_41 (by decide) ?_
    refine g_bipush (v := (9 : Int32)) dX5_readLights_42 (by decide) ?_
    refine gc_RX5_61 rfl (Nat.le_of_ble_eq_true rfl) dX5_readLights_44 sh_11 (Nat.le_of_ble_eq_true rfl) ?_
    refine Cl.mono h (fun r1 M1 h => ?_)
    have hv1 := h.1; replace h := h.2
    refine g_iastP dX5_readLights_47 ho1.2.2.2.2 hv1 ?_
    refine g_nmM (fun M2 hM2 => ?_); replace h := h M2 hM2
    refine g_aload_n (i := 1) dX5_readLights_48 rfl rfl ?_
    refine g_dup dX5_readLights_49 rfl ?_
    refine gf_RX5_87 rfl dX5_readLights_50 ho1.1 ?_
    refine g_iconst (v := (1 : Int32)) dX5_readLights_53 (by decide) ?_
    refine g_iadd dX5_readLights_54 ?_
    refine gp_RX5_87 rfl dX5_readLights_55 ho1.1 ?_
    refine g_nmM (fun M3 hM3 => ?_); replace h := h M3 hM3
    refine g_aload_n (i := 0) dX5_readLights_58 rfl rfl ?_
    refine gc_RX5_33 rfl (Nat.le_of_ble_eq_true rfl) dX5_readLights_59 sh_11 (Nat.le_of_ble_eq_true rfl) ?_
    refine Cl.mono h (fun r4 M4 h => ?_)
    refine g_aload_n (i := 0) dX5_readLights_62 rfl rfl ?_
    refine gf_RX5_22 rfl dX5_readLights_63 sh_11 ?_
    refine g_if_ne (tgt := 103) dX5_readLights_66 rfl ⟨fun hc => ?_, fun hc => ?_⟩
    · replace h := h.1 hc
      refine g_aload_n (i := 0) dX5_readLights_69 rfl rfl ?_
      refine gc_RX5_40 rfl (Nat.le_of_ble_eq_true rfl) dX5_readLights_70 sh_11 (Nat.le_of_ble_eq_true rfl) ?_
      refine Cl.mono h (fun r5 M5 h => ?_)
      refine g_bipush (v := (44 : Int32)) dX5_readLights_73 (by decide) ?_
      refine g_icmp_ne (tgt := 103) dX5_readLights_75 rfl ⟨fun hc => ?_, fun hc => ?_⟩
      · replace h := h.1 hc
        refine g_iload_n (i := 2) dX5_readLights_78 rfl rfl ?_
        refine g_bipush (v := (11 : Int32)) dX5_readLights_79 (by decide) ?_
        refine g_icmp_ne (tgt := 87) dX5_readLights_81 rfl ⟨fun hc => ?_, fun hc => ?_⟩
        · replace h := h.1 hc
          refine g_goto (tgt := 103) dX5_readLights_84 rfl ?_
          exact g_sub _ (sub_c (Or.inr rfl) (sub_c (Or.inl rfl) (sub_c (Or.inl rfl) sub_n))) h
        · replace h := h.2 hc
          refine g_aload_n (i := 0) dX5_readLights_87 rfl rfl ?_
          refine g_dup dX5_readLights_88 rfl ?_
          refine gf_RX5_19 rfl dX5_readLights_89 sh_11 ?_
          refine g_iconst (v := (1 : Int32)) dX5_readLights_92 (by decide) ?_
          refine g_iadd dX5_readLights_93 ?_
          refine gp_RX5_19 rfl dX5_readLights_94 sh_11 ?_
          refine g_nmM (fun M6 hM6 => ?_); replace h := h M6 hM6
          refine g_iinc (v := (l2 + 1)) (L' := [.ref 11, .ref o1, .int (l2 + 1)]) dX5_readLights_97 rfl rfl (Nat.le_of_ble_eq_true rfl) rfl rfl ?_
          refine g_goto (tgt := 29) dX5_readLights_100 rfl ?_
          exact h
      · replace h := h.2 hc
        exact g_sub _ (sub_c (Or.inr rfl) (sub_c (Or.inl rfl) (sub_c (Or.inl rfl) sub_n))) h
    · replace h := h.2 hc
      exact g_sub _ (sub_c (Or.inr rfl) (sub_c (Or.inl rfl) (sub_c (Or.inl rfl) sub_n))) h
theorem bX5_readLights_103 {κ : gK} {M : MM} {Q : Int32 → MM → Prop} (o1 : Nat) (ho1 : twO o1)
    (h : Cl κ mX5_readWord [.ref 11, .int (59 : Int32)] M (fun _ M1 => Q 0 M1)) :
    G κ mX5_readLights 103 [.ref 11, .null, .null] [] M Q := by
  refine g_aload_n (i := 0) dX5_readLights_103 rfl rfl ?_
  refine g_bipush (v := (59 : Int32)) dX5_readLights_104 (by decide) ?_
  refine gc_RX5_71 rfl (Nat.le_of_ble_eq_true rfl) dX5_readLights_106 sh_11 (Nat.le_of_ble_eq_true rfl) ?_
  refine Cl.mono h (fun r1 M1 h => ?_)
  exact g_vret dX5_readLights_109 rfl h
theorem eX5_readLights {κ : gK} {M : MM} {Q : Int32 → MM → Prop} (o1 : Nat)
    (h : G κ mX5_readLights 0 [.ref 11, .ref o1, .null] [] M Q) : Cl κ mX5_readLights [.ref 11, .ref o1] M Q := g_entry 1 pl_X5_readLights (Nat.le_of_ble_eq_true rfl) (L := [.ref 11, .ref o1, .null]) rfl (g_sub _ (sub_c (Or.inr rfl) (sub_c (Or.inr rfl) (sub_c (Or.inr rfl) sub_n))) h)
theorem dX5_readNumber_0 : decode cX5_readNumber 0 = .ok (.aload_n 0, 1) := by decide +kernel
theorem dX5_readNumber_1 : decode cX5_readNumber 1 = .ok (.getfield 22, 3) := by decide +kernel
theorem dX5_readNumber_4 : decode cX5_readNumber 4 = .ok (.ifCond .eq 5, 3) := by decide +kernel
theorem dX5_readNumber_7 : decode cX5_readNumber 7 = .ok (.iconst 0, 1) := by decide +kernel
theorem dX5_readNumber_8 : decode cX5_readNumber 8 = .ok (.ireturn, 1) := by decide +kernel
theorem dX5_readNumber_9 : decode cX5_readNumber 9 = .ok (.aload_n 0, 1) := by decide +kernel
theorem dX5_readNumber_10 : decode cX5_readNumber 10 = .ok (.invokevirtual 33, 3) := by decide +kernel
theorem dX5_readNumber_13 : decode cX5_readNumber 13 = .ok (.aload_n 0, 1) := by decide +kernel
theorem dX5_readNumber_14 : decode cX5_readNumber 14 = .ok (.getfield 19, 3) := by decide +kernel
theorem dX5_readNumber_17 : decode cX5_readNumber 17 = .ok (.istore_n 3, 1) := by decide +kernel
theorem dX5_readNumber_18 : decode cX5_readNumber 18 = .ok (.iconst 0, 1) := by decide +kernel
theorem dX5_readNumber_19 : decode cX5_readNumber 19 = .ok (.istore 4, 2) := by decide +kernel
theorem dX5_readNumber_21 : decode cX5_readNumber 21 = .ok (.aload_n 0, 1) := by decide +kernel
theorem dX5_readNumber_22 : decode cX5_readNumber 22 = .ok (.getfield 19, 3) := by decide +kernel
theorem dX5_readNumber_25 : decode cX5_readNumber 25 = .ok (.aload_n 0, 1) := by decide +kernel
theorem dX5_readNumber_26 : decode cX5_readNumber 26 = .ok (.getfield 15, 3) := by decide +kernel
theorem dX5_readNumber_29 : decode cX5_readNumber 29 = .ok (.if_icmp .ge 41, 3) := by decide +kernel
theorem dX5_readNumber_32 : decode cX5_readNumber 32 = .ok (.aload_n 0, 1) := by decide +kernel
theorem dX5_readNumber_33 : decode cX5_readNumber 33 = .ok (.invokevirtual 40, 3) := by decide +kernel
theorem dX5_readNumber_36 : decode cX5_readNumber 36 = .ok (.invokestatic 93, 3) := by decide +kernel
theorem dX5_readNumber_39 : decode cX5_readNumber 39 = .ok (.ifCond .eq 31, 3) := by decide +kernel
theorem dX5_readNumber_42 : decode cX5_readNumber 42 = .ok (.iload 4, 2) := by decide +kernel
theorem dX5_readNumber_44 : decode cX5_readNumber 44 = .ok (.bipush 10, 2) := by decide +kernel
theorem dX5_readNumber_46 : decode cX5_readNumber 46 = .ok (.imul, 1) := by decide +kernel
theorem dX5_readNumber_47 : decode cX5_readNumber 47 = .ok (.aload_n 0, 1) := by decide +kernel
theorem dX5_readNumber_48 : decode cX5_readNumber 48 = .ok (.invokevirtual 40, 3) := by decide +kernel
theorem dX5_readNumber_51 : decode cX5_readNumber 51 = .ok (.iadd, 1) := by decide +kernel
theorem dX5_readNumber_52 : decode cX5_readNumber 52 = .ok (.bipush 48, 2) := by decide +kernel
theorem dX5_readNumber_54 : decode cX5_readNumber 54 = .ok (.isub, 1) := by decide +kernel
theorem dX5_readNumber_55 : decode cX5_readNumber 55 = .ok (.istore 4, 2) := by decide +kernel
theorem dX5_readNumber_57 : decode cX5_readNumber 57 = .ok (.aload_n 0, 1) := by decide +kernel
theorem dX5_readNumber_58 : decode cX5_readNumber 58 = .ok (.dup, 1) := by decide +kernel
theorem dX5_readNumber_59 : decode cX5_readNumber 59 = .ok (.getfield 19, 3) := by decide +kernel
theorem dX5_readNumber_62 : decode cX5_readNumber 62 = .ok (.iconst 1, 1) := by decide +kernel
theorem dX5_readNumber_63 : decode cX5_readNumber 63 = .ok (.iadd, 1) := by decide +kernel
theorem dX5_readNumber_64 : decode cX5_readNumber 64 = .ok (.putfield 19, 3) := by decide +kernel
theorem dX5_readNumber_67 : decode cX5_readNumber 67 = .ok (.goto (-46), 3) := by decide +kernel
theorem dX5_readNumber_70 : decode cX5_readNumber 70 = .ok (.aload_n 0, 1) := by decide +kernel
theorem dX5_readNumber_71 : decode cX5_readNumber 71 = .ok (.getfield 19, 3) := by decide +kernel
theorem dX5_readNumber_74 : decode cX5_readNumber 74 = .ok (.iload_n 3, 1) := by decide +kernel
theorem dX5_readNumber_75 : decode cX5_readNumber 75 = .ok (.isub, 1) := by decide +kernel
theorem dX5_readNumber_76 : decode cX5_readNumber 76 = .ok (.istore 5, 2) := by decide +kernel
theorem dX5_readNumber_78 : decode cX5_readNumber 78 = .ok (.iload 5, 2) := by decide +kernel
theorem dX5_readNumber_80 : decode cX5_readNumber 80 = .ok (.ifCond .ne 12, 3) := by decide +kernel
theorem dX5_readNumber_83 : decode cX5_readNumber 83 = .ok (.aload_n 0, 1) := by decide +kernel
theorem dX5_readNumber_84 : decode cX5_readNumber 84 = .ok (.iconst 1, 1) := by decide +kernel
theorem dX5_readNumber_85 : decode cX5_readNumber 85 = .ok (.iload_n 3, 1) := by decide +kernel
theorem dX5_readNumber_86 : decode cX5_readNumber 86 = .ok (.invokevirtual 51, 3) := by decide +kernel
theorem dX5_readNumber_89 : decode cX5_readNumber 89 = .ok (.goto 27, 3) := by decide +kernel
theorem dX5_readNumber_92 : decode cX5_readNumber 92 = .ok (.iload 5, 2) := by decide +kernel
theorem dX5_readNumber_94 : decode cX5_readNumber 94 = .ok (.iconst 3, 1) := by decide +kernel
theorem dX5_readNumber_95 : decode cX5_readNumber 95 = .ok (.if_icmp .gt 15, 3) := by decide +kernel
theorem dX5_readNumber_98 : decode cX5_readNumber 98 = .ok (.iload 4, 2) := by decide +kernel
theorem dX5_readNumber_100 : decode cX5_readNumber 100 = .ok (.iload_n 1, 1) := by decide +kernel
theorem dX5_readNumber_101 : decode cX5_readNumber 101 = .ok (.if_icmp .lt 9, 3) := by decide +kernel
theorem dX5_readNumber_104 : decode cX5_readNumber 104 = .ok (.iload 4, 2) := by decide +kernel
theorem dX5_readNumber_106 : decode cX5_readNumber 106 = .ok (.iload_n 2, 1) := by decide +kernel
theorem dX5_readNumber_107 : decode cX5_readNumber 107 = .ok (.if_icmp .le 9, 3) := by decide +kernel
theorem dX5_readNumber_110 : decode cX5_readNumber 110 = .ok (.aload_n 0, 1) := by decide +kernel
theorem dX5_readNumber_111 : decode cX5_readNumber 111 = .ok (.iconst 2, 1) := by decide +kernel
theorem dX5_readNumber_112 : decode cX5_readNumber 112 = .ok (.iload_n 3, 1) := by decide +kernel
theorem dX5_readNumber_113 : decode cX5_readNumber 113 = .ok (.invokevirtual 51, 3) := by decide +kernel
theorem dX5_readNumber_116 : decode cX5_readNumber 116 = .ok (.iload 4, 2) := by decide +kernel
theorem dX5_readNumber_118 : decode cX5_readNumber 118 = .ok (.ireturn, 1) := by decide +kernel
theorem bX5_readNumber_0 {κ : gK} {M : MM} {Q : Int32 → MM → Prop} (l1 : Int32) (l2 : Int32)
    (h : (((M 11 3) = 0 → Cl κ mX5_skipBlanks [.ref 11] M (fun _ M1 => G κ mX5_readNumber 21 [.ref 11, .int l1, .int l2, .int (M1 11 2), .int (0 : Int32), .null] [] M1 Q)) ∧ (¬ (M 11 3) = 0 → Q (0 : Int32) M))) :
    G κ mX5_readNumber 0 [.ref 11, .int l1, .int l2, .null, .null, .null] [] M Q := by
  refine g_aload_n (i := 0) dX5_readNumber_0 rfl rfl ?_
  refine gf_RX5_22 rfl dX5_readNumber_1 sh_11 ?_
  refine g_if_eq (tgt := 9) dX5_readNumber_4 rfl ⟨fun hc => ?_, fun hc => ?_⟩
  · replace h := h.1 hc
    refine g_aload_n (i := 0) dX5_readNumber_9 rfl rfl ?_
    refine gc_RX5_33 rfl (Nat.le_of_ble_eq_true rfl) dX5_readNumber_10 sh_11 (Nat.le_of_ble_eq_true rfl) ?_
    refine Cl.mono h (fun r1 M1 h => ?_)
    refine g_aload_n (i := 0) dX5_readNumber_13 rfl rfl ?_
    refine gf_RX5_19 rfl dX5_readNumber_14 sh_11 ?_
    refine g_istore_n (i := 3) (L' := [.ref 11, .int l1, .int l2, .int (M1 11 2), .null, .null]) dX5_readNumber_17 rfl (Nat.le_of_ble_eq_true rfl) rfl rfl ?_
    refine g_iconst (v := (0 : Int32)) dX5_readNumber_18 (by decide) ?_
    refine g_istore (i := 4) (L' := [.ref 11, .int l1, .int l2, .int (M1 11 2), .int (0 : Int32), .null]) dX5_readNumber_19 (Nat.le_of_ble_eq_true rfl) rfl rfl ?_
    exact h
  · replace h := h.2 hc
    refine g_iconst (v := (0 : Int32)) dX5_readNumber_7 (by decide) ?_
    exact g_iret dX5_readNumber_8 rfl h
theorem bX5_readNumber_21 {κ : gK} {M : MM} {Q : Int32 → MM → Prop} (l1 : Int32) (l2 : Int32) (l3 : Int32) (l4 : Int32)
    (h : (((M 11 1) ≤ (M 11 2) → G κ mX5_readNumber 70 [.ref 11, .int l1, .int l2, .int l3, .int l4, .null] [] M Q) ∧ (¬ (M 11 1) ≤ (M 11 2) → Cl κ mX5_letterHere [.ref 11] M (fun r1 M1 => Cl κ mX5_isFigure [.int r1] M1 (fun r2 M2 => ((r2 = 0 → G κ mX5_readNumber 70 [.ref 11, .int l1, .int l2, .int l3, .int l4, .null] [] M2 Q) ∧ (¬ r2 = 0 → Cl κ mX5_letterHere [.ref 11] M2 (fun r3 M3 => ∀ v4 : Int32, v4 = (((l4 * (10 : Int32)) + r3) - (48 : Int32)) → (∀ M5 : MM, M5 = (pt M3 11 2 ((M3 11 2) + (1 : Int32))) → (G κ mX5_readNumber 21 [.ref 11, .int l1, .int l2, .int l3, .int v4, .null] [] M5 Q)))))))))) :
    G κ mX5_readNumber 21 [.ref 11, .int l1, .int l2, .int l3, .int l4, .null] [] M Q := by
  refine g_aload_n (i := 0) dX5_readNumber_21 rfl rfl ?_
  refine gf_RX5_19 rfl dX5_readNumber_22 sh_11 ?_
  refine g_aload_n (i := 0) dX5_readNumber_25 rfl rfl ?_
  refine gf_RX5_15 rfl dX5_readNumber_26 sh_11 ?_
  refine g_icmp_ge (tgt := 70) dX5_readNumber_29 rfl ⟨fun hc => ?_, fun hc => ?_⟩
  · replace h := h.1 hc
    exact h
  · replace h := h.2 hc
    refine g_aload_n (i := 0) dX5_readNumber_32 rfl rfl ?_
    refine gc_RX5_40 rfl (Nat.le_of_ble_eq_true rfl) dX5_readNumber_33 sh_11 (Nat.le_of_ble_eq_true rfl) ?_
    refine Cl.mono h (fun r1 M1 h => ?_)
    refine gc_RX5_93 rfl (Nat.le_of_ble_eq_true rfl) dX5_readNumber_36 (Nat.le_of_ble_eq_true rfl) ?_
    refine Cl.mono h (fun r2 M2 h => ?_)
    refine g_if_eq (tgt := 70) dX5_readNumber_39 rfl ⟨fun hc => ?_, fun hc => ?_⟩
    · replace h := h.1 hc
      exact h
    · replace h := h.2 hc
      refine g_iload (i := 4) dX5_readNumber_42 rfl ?_
      refine g_bipush (v := (10 : Int32)) dX5_readNumber_44 (by decide) ?_
      refine g_imul dX5_readNumber_46 ?_
      refine g_aload_n (i := 0) dX5_readNumber_47 rfl rfl ?_
      refine gc_RX5_40 rfl (Nat.le_of_ble_eq_true rfl) dX5_readNumber_48 sh_11 (Nat.le_of_ble_eq_true rfl) ?_
      refine Cl.mono h (fun r3 M3 h => ?_)
      refine g_iadd dX5_readNumber_51 ?_
      refine g_bipush (v := (48 : Int32)) dX5_readNumber_52 (by decide) ?_
      refine g_isub dX5_readNumber_54 ?_
      refine lv_nm (fun v4 hn4 => ?_) (x := (((l4 * (10 : Int32)) + r3) - (48 : Int32)))
      replace h := h v4 hn4
      refine g_istore (i := 4) (L' := [.ref 11, .int l1, .int l2, .int l3, .int v4, .null]) dX5_readNumber_55 (Nat.le_of_ble_eq_true rfl) rfl rfl ?_
      refine g_aload_n (i := 0) dX5_readNumber_57 rfl rfl ?_
      refine g_dup dX5_readNumber_58 rfl ?_
      refine gf_RX5_19 rfl dX5_readNumber_59 sh_11 ?_
      refine g_iconst (v := (1 : Int32)) dX5_readNumber_62 (by decide) ?_
      refine g_iadd dX5_readNumber_63 ?_
      refine gp_RX5_19 rfl dX5_readNumber_64 sh_11 ?_
      refine g_nmM (fun M5 hM5 => ?_); replace h := h M5 hM5
      refine g_goto (tgt := 21) dX5_readNumber_67 rfl ?_
      exact h
theorem bX5_readNumber_70 {κ : gK} {M : MM} {Q : Int32 → MM → Prop} (l1 : Int32) (l2 : Int32) (l3 : Int32) (l4 : Int32)
    (h : ((((M 11 2) - l3) = 0 → Cl κ mX5_blame [.ref 11, .int (1 : Int32), .int l3] M (fun _ M1 => G κ mX5_readNumber 116 [.null, .null, .null, .null, .int l4, .null] [] M1 Q)) ∧ (¬ ((M 11 2) - l3) = 0 → (((3 : Int32) < ((M 11 2) - l3) → G κ mX5_readNumber 110 [.ref 11, .null, .null, .int l3, .int l4, .null] [] M Q) ∧ (¬ (3 : Int32) < ((M 11 2) - l3) → ((l4 < l1 → G κ mX5_readNumber 110 [.ref 11, .null, .null, .int l3, .int l4, .null] [] M Q) ∧ (¬ l4 < l1 → ((l4 ≤ l2 → G κ mX5_readNumber 116 [.null, .null, .null, .null, .int l4, .null] [] M Q) ∧ (¬ l4 ≤ l2 → G κ mX5_readNumber 110 [.ref 11, .null, .null, .int l3, .int l4, .null] [] M Q))))))))) :
    G κ mX5_readNumber 70 [.ref 11, .int l1, .int l2, .int l3, .int l4, .null] [] M Q := by
  refine g_aload_n (i := 0) dX5_readNumber_70 rfl rfl ?_
  refine gf_RX5_19 rfl dX5_readNumber_71 sh_11 ?_
  refine g_iload_n (i := 3) dX5_readNumber_74 rfl rfl ?_
  refine g_isub dX5_readNumber_75 ?_
  refine g_istore (i := 5) (L' := [.ref 11, .int l1, .int l2, .int l3, .int l4, .int ((M 11 2) - l3)]) dX5_readNumber_76 (Nat.le_of_ble_eq_true rfl) rfl rfl ?_
  refine g_iload (i := 5) dX5_readNumber_78 rfl ?_
  refine g_if_ne (tgt := 92) dX5_readNumber_80 rfl ⟨fun hc => ?_, fun hc => ?_⟩
  · replace h := h.1 hc
    refine g_aload_n (i := 0) dX5_readNumber_83 rfl rfl ?_
    refine g_iconst (v := (1 : Int32)) dX5_readNumber_84 (by decide) ?_
    refine g_iload_n (i := 3) dX5_readNumber_85 rfl rfl ?_
    refine gc_RX5_51 rfl (Nat.le_of_ble_eq_true rfl) dX5_readNumber_86 sh_11 (Nat.le_of_ble_eq_true rfl) ?_
    refine Cl.mono h (fun r1 M1 h => ?_)
    refine g_goto (tgt := 116) dX5_readNumber_89 rfl ?_
    exact g_sub _ (sub_c (Or.inl rfl) (sub_c (Or.inl rfl) (sub_c (Or.inl rfl) (sub_c (Or.inl rfl) (sub_c (Or.inr rfl) (sub_c (Or.inl rfl) sub_n)))))) h
  · replace h := h.2 hc
    refine g_iload (i := 5) dX5_readNumber_92 rfl ?_
    refine g_iconst (v := (3 : Int32)) dX5_readNumber_94 (by decide) ?_
    refine g_icmp_gt (tgt := 110) dX5_readNumber_95 rfl ⟨fun hc => ?_, fun hc => ?_⟩
    · replace h := h.1 hc
      exact g_sub _ (sub_c (Or.inr rfl) (sub_c (Or.inl rfl) (sub_c (Or.inl rfl) (sub_c (Or.inr rfl) (sub_c (Or.inr rfl) (sub_c (Or.inl rfl) sub_n)))))) h
    · replace h := h.2 hc
      refine g_iload (i := 4) dX5_readNumber_98 rfl ?_
      refine g_iload_n (i := 1) dX5_readNumber_100 rfl rfl ?_
      refine g_icmp_lt (tgt := 110) dX5_readNumber_101 rfl ⟨fun hc => ?_, fun hc => ?_⟩
      · replace h := h.1 hc
        exact g_sub _ (sub_c (Or.inr rfl) (sub_c (Or.inl rfl) (sub_c (Or.inl rfl) (sub_c (Or.inr rfl) (sub_c (Or.inr rfl) (sub_c (Or.inl rfl) sub_n)))))) h
      · replace h := h.2 hc
        refine g_iload (i := 4) dX5_readNumber_104 rfl ?_
        refine g_iload_n (i := 2) dX5_readNumber_106 rfl rfl ?_
        refine g_icmp_le (tgt := 116) dX5_readNumber_107 rfl ⟨fun hc => ?_, fun hc => ?_⟩
        · replace h := h.1 hc
          exact g_sub _ (sub_c (Or.inl rfl) (sub_c (Or.inl rfl) (sub_c (Or.inl rfl) (sub_c (Or.inl rfl) (sub_c (Or.inr rfl) (sub_c (Or.inl rfl) sub_n)))))) h
        · replace h := h.2 hc
          exact g_sub _ (sub_c (Or.inr rfl) (sub_c (Or.inl rfl) (sub_c (Or.inl rfl) (sub_c (Or.inr rfl) (sub_c (Or.inr rfl) (sub_c (Or.inl rfl) sub_n)))))) h
theorem bX5_readNumber_110 {κ : gK} {M : MM} {Q : Int32 → MM → Prop} (l3 : Int32) (l4 : Int32)
    (h : Cl κ mX5_blame [.ref 11, .int (2 : Int32), .int l3] M (fun _ M1 => G κ mX5_readNumber 116 [.null, .null, .null, .null, .int l4, .null] [] M1 Q)) :
    G κ mX5_readNumber 110 [.ref 11, .null, .null, .int l3, .int l4, .null] [] M Q := by
  refine g_aload_n (i := 0) dX5_readNumber_110 rfl rfl ?_
  refine g_iconst (v := (2 : Int32)) dX5_readNumber_111 (by decide) ?_
  refine g_iload_n (i := 3) dX5_readNumber_112 rfl rfl ?_
  refine gc_RX5_51 rfl (Nat.le_of_ble_eq_true rfl) dX5_readNumber_113 sh_11 (Nat.le_of_ble_eq_true rfl) ?_
  refine Cl.mono h (fun r1 M1 h => ?_)
  exact g_sub _ (sub_c (Or.inl rfl) (sub_c (Or.inr rfl) (sub_c (Or.inr rfl) (sub_c (Or.inl rfl) (sub_c (Or.inr rfl) (sub_c (Or.inr rfl) sub_n)))))) h
theorem bX5_readNumber_116 {κ : gK} {M : MM} {Q : Int32 → MM → Prop} (l4 : Int32)
    (h : Q l4 M) :
    G κ mX5_readNumber 116 [.null, .null, .null, .null, .int l4, .null] [] M Q := by
  refine g_iload (i := 4) dX5_readNumber_116 rfl ?_
  exact g_iret dX5_readNumber_118 rfl h
theorem eX5_readNumber {κ : gK} {M : MM} {Q : Int32 → MM → Prop} (l1 : Int32) (l2 : Int32)
    (h : G κ mX5_readNumber 0 [.ref 11, .int l1, .int l2, .null, .null, .null] [] M Q) : Cl κ mX5_readNumber [.ref 11, .int l1, .int l2] M Q := g_entry 3 pl_X5_readNumber (Nat.le_of_ble_eq_true rfl) (L := [.ref 11, .int l1, .int l2, .null, .null, .null]) rfl (g_sub _ (sub_c (Or.inr rfl) (sub_c (Or.inr rfl) (sub_c (Or.inr rfl) (sub_c (Or.inr rfl) (sub_c (Or.inr rfl) (sub_c (Or.inr rfl) sub_n)))))) h)
theorem dX5_readWord_0 : decode cX5_readWord 0 = .ok (.aload_n 0, 1) := by decide +kernel
theorem dX5_readWord_1 : decode cX5_readWord 1 = .ok (.getfield 22, 3) := by decide +kernel
theorem dX5_readWord_4 : decode cX5_readWord 4 = .ok (.ifCond .eq 4, 3) := by decide +kernel
theorem dX5_readWord_7 : decode cX5_readWord 7 = .ok (.return_, 1) := by decide +kernel
theorem dX5_readWord_8 : decode cX5_readWord 8 = .ok (.aload_n 0, 1) := by decide +kernel
theorem dX5_readWord_9 : decode cX5_readWord 9 = .ok (.invokevirtual 33, 3) := by decide +kernel
theorem dX5_readWord_12 : decode cX5_readWord 12 = .ok (.aload_n 0, 1) := by decide +kernel
theorem dX5_readWord_13 : decode cX5_readWord 13 = .ok (.invokevirtual 40, 3) := by decide +kernel
theorem dX5_readWord_16 : decode cX5_readWord 16 = .ok (.iload_n 1, 1) := by decide +kernel
theorem dX5_readWord_17 : decode cX5_readWord 17 = .ok (.if_icmp .ne 16, 3) := by decide +kernel
theorem dX5_readWord_20 : decode cX5_readWord 20 = .ok (.aload_n 0, 1) := by decide +kernel
theorem dX5_readWord_21 : decode cX5_readWord 21 = .ok (.dup, 1) := by decide +kernel
theorem dX5_readWord_22 : decode cX5_readWord 22 = .ok (.getfield 19, 3) := by decide +kernel
theorem dX5_readWord_25 : decode cX5_readWord 25 = .ok (.iconst 1, 1) := by decide +kernel
theorem dX5_readWord_26 : decode cX5_readWord 26 = .ok (.iadd, 1) := by decide +kernel
theorem dX5_readWord_27 : decode cX5_readWord 27 = .ok (.putfield 19, 3) := by decide +kernel
theorem dX5_readWord_30 : decode cX5_readWord 30 = .ok (.goto 12, 3) := by decide +kernel
theorem dX5_readWord_33 : decode cX5_readWord 33 = .ok (.aload_n 0, 1) := by decide +kernel
theorem dX5_readWord_34 : decode cX5_readWord 34 = .ok (.iconst 1, 1) := by decide +kernel
theorem dX5_readWord_35 : decode cX5_readWord 35 = .ok (.aload_n 0, 1) := by decide +kernel
theorem dX5_readWord_36 : decode cX5_readWord 36 = .ok (.getfield 19, 3) := by decide +kernel
theorem dX5_readWord_39 : decode cX5_readWord 39 = .ok (.invokevirtual 51, 3) := by decide +kernel
theorem dX5_readWord_42 : decode cX5_readWord 42 = .ok (.return_, 1) := by decide +kernel
theorem bX5_readWord_0 {κ : gK} {M : MM} {Q : Int32 → MM → Prop} (l1 : Int32)
    (h : (((M 11 3) = 0 → Cl κ mX5_skipBlanks [.ref 11] M (fun _ M1 => Cl κ mX5_letterHere [.ref 11] M1 (fun r2 M2 => ((r2 = l1 → ∀ M3 : MM, M3 = (pt M2 11 2 ((M2 11 2) + (1 : Int32))) → (G κ mX5_readWord 42 [.null, .null] [] M3 Q)) ∧ (¬ r2 = l1 → Cl κ mX5_blame [.ref 11, .int (1 : Int32), .int (M2 11 2)] M2 (fun _ M4 => G κ mX5_readWord 42 [.null, .null] [] M4 Q)))))) ∧ (¬ (M 11 3) = 0 → Q 0 M))) :
    G κ mX5_readWord 0 [.ref 11, .int l1] [] M Q := by
  refine g_aload_n (i := 0) dX5_readWord_0 rfl rfl ?_
  refine gf_RX5_22 rfl dX5_readWord_1 sh_11 ?_
  refine g_if_eq (tgt := 8) dX5_readWord_4 rfl ⟨fun hc => ?_, fun hc => ?_⟩
  · replace h := h.1 hc
    refine g_aload_n (i := 0) dX5_readWord_8 rfl rfl ?_
    refine gc_RX5_33 rfl (Nat.le_of_ble_eq_true rfl) dX5_readWord_9 sh_11 (Nat.le_of_ble_eq_true rfl) ?_
    refine Cl.mono h (fun r1 M1 h => ?_)
    refine g_aload_n (i := 0) dX5_readWord_12 rfl rfl ?_
    refine gc_RX5_40 rfl (Nat.le_of_ble_eq_true rfl) dX5_readWord_13 sh_11 (Nat.le_of_ble_eq_true rfl) ?_
    refine Cl.mono h (fun r2 M2 h => ?_)
    refine g_iload_n (i := 1) dX5_readWord_16 rfl rfl ?_
    refine g_icmp_ne (tgt := 33) dX5_readWord_17 rfl ⟨fun hc => ?_, fun hc => ?_⟩
    · replace h := h.1 hc
      refine g_aload_n (i := 0) dX5_readWord_20 rfl rfl ?_
      refine g_dup dX5_readWord_21 rfl ?_
      refine gf_RX5_19 rfl dX5_readWord_22 sh_11 ?_
      refine g_iconst (v := (1 : Int32)) dX5_readWord_25 (by decide) ?_
      refine g_iadd dX5_readWord_26 ?_
      refine gp_RX5_19 rfl dX5_readWord_27 sh_11 ?_
      refine g_nmM (fun M3 hM3 => ?_); replace h := h M3 hM3
      refine g_goto (tgt := 42) dX5_readWord_30 rfl ?_
      exact g_sub _ (sub_c (Or.inl rfl) (sub_c (Or.inl rfl) sub_n)) h
    · replace h := h.2 hc
      refine g_aload_n (i := 0) dX5_readWord_33 rfl rfl ?_
      refine g_iconst (v := (1 : Int32)) dX5_readWord_34 (by decide) ?_
      refine g_aload_n (i := 0) dX5_readWord_35 rfl rfl ?_
      refine gf_RX5_19 rfl dX5_readWord_36 sh_11 ?_
      refine gc_RX5_51 rfl (Nat.le_of_ble_eq_true rfl) dX5_readWord_39 sh_11 (Nat.le_of_ble_eq_true rfl) ?_
      refine Cl.mono h (fun r4 M4 h => ?_)
      exact g_sub _ (sub_c (Or.inl rfl) (sub_c (Or.inl rfl) sub_n)) h
  · replace h := h.2 hc
    exact g_vret dX5_readWord_7 rfl h
theorem bX5_readWord_42 {κ : gK} {M : MM} {Q : Int32 → MM → Prop} 
    (h : Q 0 M) :
    G κ mX5_readWord 42 [.null, .null] [] M Q := by
  exact g_vret dX5_readWord_42 rfl h
theorem eX5_readWord {κ : gK} {M : MM} {Q : Int32 → MM → Prop} (l1 : Int32)
    (h : G κ mX5_readWord 0 [.ref 11, .int l1] [] M Q) : Cl κ mX5_readWord [.ref 11, .int l1] M Q := g_entry 0 pl_X5_readWord (Nat.le_of_ble_eq_true rfl) (L := [.ref 11, .int l1]) rfl (g_sub _ (sub_c (Or.inr rfl) (sub_c (Or.inr rfl) sub_n)) h)
theorem dX5_skipBlanks_0 : decode cX5_skipBlanks 0 = .ok (.aload_n 0, 1) := by decide +kernel
theorem dX5_skipBlanks_1 : decode cX5_skipBlanks 1 = .ok (.getfield 19, 3) := by decide +kernel
theorem dX5_skipBlanks_4 : decode cX5_skipBlanks 4 = .ok (.aload_n 0, 1) := by decide +kernel
theorem dX5_skipBlanks_5 : decode cX5_skipBlanks 5 = .ok (.getfield 15, 3) := by decide +kernel
theorem dX5_skipBlanks_8 : decode cX5_skipBlanks 8 = .ok (.if_icmp .ge 25, 3) := by decide +kernel
theorem dX5_skipBlanks_11 : decode cX5_skipBlanks 11 = .ok (.aload_n 0, 1) := by decide +kernel
theorem dX5_skipBlanks_12 : decode cX5_skipBlanks 12 = .ok (.invokevirtual 40, 3) := by decide +kernel
theorem dX5_skipBlanks_15 : decode cX5_skipBlanks 15 = .ok (.bipush 32, 2) := by decide +kernel
theorem dX5_skipBlanks_17 : decode cX5_skipBlanks 17 = .ok (.if_icmp .ne 16, 3) := by decide +kernel
theorem dX5_skipBlanks_20 : decode cX5_skipBlanks 20 = .ok (.aload_n 0, 1) := by decide +kernel
theorem dX5_skipBlanks_21 : decode cX5_skipBlanks 21 = .ok (.dup, 1) := by decide +kernel
theorem dX5_skipBlanks_22 : decode cX5_skipBlanks 22 = .ok (.getfield 19, 3) := by decide +kernel
theorem dX5_skipBlanks_25 : decode cX5_skipBlanks 25 = .ok (.iconst 1, 1) := by decide +kernel
theorem dX5_skipBlanks_26 : decode cX5_skipBlanks 26 = .ok (.iadd, 1) := by decide +kernel
theorem dX5_skipBlanks_27 : decode cX5_skipBlanks 27 = .ok (.putfield 19, 3) := by decide +kernel
theorem dX5_skipBlanks_30 : decode cX5_skipBlanks 30 = .ok (.goto (-30), 3) := by decide +kernel
theorem dX5_skipBlanks_33 : decode cX5_skipBlanks 33 = .ok (.return_, 1) := by decide +kernel
theorem bX5_skipBlanks_0 {κ : gK} {M : MM} {Q : Int32 → MM → Prop} 
    (h : (((M 11 1) ≤ (M 11 2) → G κ mX5_skipBlanks 33 [.null] [] M Q) ∧ (¬ (M 11 1) ≤ (M 11 2) → Cl κ mX5_letterHere [.ref 11] M (fun r1 M1 => ((r1 = (32 : Int32) → ∀ M2 : MM, M2 = (pt M1 11 2 ((M1 11 2) + (1 : Int32))) → (G κ mX5_skipBlanks 0 [.ref 11] [] M2 Q)) ∧ (¬ r1 = (32 : Int32) → G κ mX5_skipBlanks 33 [.null] [] M1 Q)))))) :
    G κ mX5_skipBlanks 0 [.ref 11] [] M Q := by
  refine g_aload_n (i := 0) dX5_skipBlanks_0 rfl rfl ?_
  refine gf_RX5_19 rfl dX5_skipBlanks_1 sh_11 ?_
  refine g_aload_n (i := 0) dX5_skipBlanks_4 rfl rfl ?_
  refine gf_RX5_15 rfl dX5_skipBlanks_5 sh_11 ?_
  refine g_icmp_ge (tgt := 33) dX5_skipBlanks_8 rfl ⟨fun hc => ?_, fun hc => ?_⟩
  · replace h := h.1 hc
    exact g_sub _ (sub_c (Or.inl rfl) sub_n) h
  · replace h := h.2 hc
    refine g_aload_n (i := 0) dX5_skipBlanks_11 rfl rfl ?_
    refine gc_RX5_40 rfl (Nat.le_of_ble_eq_true rfl) dX5_skipBlanks_12 sh_11 (Nat.le_of_ble_eq_true rfl) ?_
    refine Cl.mono h (fun r1 M1 h => ?_)
    refine g_bipush (v := (32 : Int32)) dX5_skipBlanks_15 (by decide) ?_
    refine g_icmp_ne (tgt := 33) dX5_skipBlanks_17 rfl ⟨fun hc => ?_, fun hc => ?_⟩
    · replace h := h.1 hc
      refine g_aload_n (i := 0) dX5_skipBlanks_20 rfl rfl ?_
      refine g_dup dX5_skipBlanks_21 rfl ?_
      refine gf_RX5_19 rfl dX5_skipBlanks_22 sh_11 ?_
      refine g_iconst (v := (1 : Int32)) dX5_skipBlanks_25 (by decide) ?_
      refine g_iadd dX5_skipBlanks_26 ?_
      refine gp_RX5_19 rfl dX5_skipBlanks_27 sh_11 ?_
      refine g_nmM (fun M2 hM2 => ?_); replace h := h M2 hM2
      refine g_goto (tgt := 0) dX5_skipBlanks_30 rfl ?_
      exact h
    · replace h := h.2 hc
      exact g_sub _ (sub_c (Or.inl rfl) sub_n) h
theorem bX5_skipBlanks_33 {κ : gK} {M : MM} {Q : Int32 → MM → Prop} 
    (h : Q 0 M) :
    G κ mX5_skipBlanks 33 [.null] [] M Q := by
  exact g_vret dX5_skipBlanks_33 rfl h
theorem eX5_skipBlanks {κ : gK} {M : MM} {Q : Int32 → MM → Prop} 
    (h : G κ mX5_skipBlanks 0 [.ref 11] [] M Q) : Cl κ mX5_skipBlanks [.ref 11] M Q := g_entry 0 pl_X5_skipBlanks (Nat.le_of_ble_eq_true rfl) (L := [.ref 11]) rfl (g_sub _ (sub_c (Or.inr rfl) sub_n) h)
theorem dX5_letterHere_0 : decode cX5_letterHere 0 = .ok (.aload_n 0, 1) := by decide +kernel
theorem dX5_letterHere_1 : decode cX5_letterHere 1 = .ok (.getfield 19, 3) := by decide +kernel
theorem dX5_letterHere_4 : decode cX5_letterHere 4 = .ok (.ifCond .lt 26, 3) := by decide +kernel
theorem dX5_letterHere_7 : decode cX5_letterHere 7 = .ok (.aload_n 0, 1) := by decide +kernel
theorem dX5_letterHere_8 : decode cX5_letterHere 8 = .ok (.getfield 19, 3) := by decide +kernel
theorem dX5_letterHere_11 : decode cX5_letterHere 11 = .ok (.aload_n 0, 1) := by decide +kernel
theorem dX5_letterHere_12 : decode cX5_letterHere 12 = .ok (.getfield 15, 3) := by decide +kernel
theorem dX5_letterHere_15 : decode cX5_letterHere 15 = .ok (.if_icmp .ge 15, 3) := by decide +kernel
theorem dX5_letterHere_18 : decode cX5_letterHere 18 = .ok (.aload_n 0, 1) := by decide +kernel
theorem dX5_letterHere_19 : decode cX5_letterHere 19 = .ok (.getfield 9, 3) := by decide +kernel
theorem dX5_letterHere_22 : decode cX5_letterHere 22 = .ok (.aload_n 0, 1) := by decide +kernel
theorem dX5_letterHere_23 : decode cX5_letterHere 23 = .ok (.getfield 19, 3) := by decide +kernel
theorem dX5_letterHere_26 : decode cX5_letterHere 26 = .ok (.iaload, 1) := by decide +kernel
theorem dX5_letterHere_27 : decode cX5_letterHere 27 = .ok (.goto 4, 3) := by decide +kernel
theorem dX5_letterHere_30 : decode cX5_letterHere 30 = .ok (.iconst (-1), 1) := by decide +kernel
theorem dX5_letterHere_31 : decode cX5_letterHere 31 = .ok (.ireturn, 1) := by decide +kernel
theorem bX5_letterHere_0 {κ : gK} {M : MM} {Q : Int32 → MM → Prop} 
    (h : (((M 11 2) < 0 → G κ mX5_letterHere 30 [.null] [] M Q) ∧ (¬ (M 11 2) < 0 → (((M 11 1) ≤ (M 11 2) → G κ mX5_letterHere 30 [.null] [] M Q) ∧ (¬ (M 11 1) ≤ (M 11 2) → (vp_in (M 11 2) 240) ∧ (G κ mX5_letterHere 31 [.null] [.int (M 12 ((M 11 2)).toNatClampNeg)] M Q)))))) :
    G κ mX5_letterHere 0 [.ref 11] [] M Q := by
  refine g_aload_n (i := 0) dX5_letterHere_0 rfl rfl ?_
  refine gf_RX5_19 rfl dX5_letterHere_1 sh_11 ?_
  refine g_if_lt (tgt := 30) dX5_letterHere_4 rfl ⟨fun hc => ?_, fun hc => ?_⟩
  · replace h := h.1 hc
    exact g_sub _ (sub_c (Or.inl rfl) sub_n) h
  · replace h := h.2 hc
    refine g_aload_n (i := 0) dX5_letterHere_7 rfl rfl ?_
    refine gf_RX5_19 rfl dX5_letterHere_8 sh_11 ?_
    refine g_aload_n (i := 0) dX5_letterHere_11 rfl rfl ?_
    refine gf_RX5_15 rfl dX5_letterHere_12 sh_11 ?_
    refine g_icmp_ge (tgt := 30) dX5_letterHere_15 rfl ⟨fun hc => ?_, fun hc => ?_⟩
    · replace h := h.1 hc
      exact g_sub _ (sub_c (Or.inl rfl) sub_n) h
    · replace h := h.2 hc
      refine g_aload_n (i := 0) dX5_letterHere_18 rfl rfl ?_
      refine gf_RX5_9 rfl dX5_letterHere_19 sh_11 ?_
      refine g_aload_n (i := 0) dX5_letterHere_22 rfl rfl ?_
      refine gf_RX5_19 rfl dX5_letterHere_23 sh_11 ?_
      have hv1 := h.1; replace h := h.2
      refine g_iald dX5_letterHere_26 sh_12 hv1 ?_
      refine g_goto (tgt := 31) dX5_letterHere_27 rfl ?_
      exact g_sub _ (sub_c (Or.inl rfl) sub_n) h
theorem bX5_letterHere_30 {κ : gK} {M : MM} {Q : Int32 → MM → Prop} 
    (h : G κ mX5_letterHere 31 [.null] [.int (-1 : Int32)] M Q) :
    G κ mX5_letterHere 30 [.null] [] M Q := by
  refine g_iconst (v := (-1 : Int32)) dX5_letterHere_30 (by decide) ?_
  exact h
theorem bX5_letterHere_31 {κ : gK} {M : MM} {Q : Int32 → MM → Prop} (s0 : Int32)
    (h : Q s0 M) :
    G κ mX5_letterHere 31 [.null] [.int s0] M Q := by
  exact g_iret dX5_letterHere_31 rfl h
theorem eX5_letterHere {κ : gK} {M : MM} {Q : Int32 → MM → Prop} 
    (h : G κ mX5_letterHere 0 [.ref 11] [] M Q) : Cl κ mX5_letterHere [.ref 11] M Q := g_entry 0 pl_X5_letterHere (Nat.le_of_ble_eq_true rfl) (L := [.ref 11]) rfl (g_sub _ (sub_c (Or.inr rfl) sub_n) h)
theorem dX5_isFigure_0 : decode cX5_isFigure 0 = .ok (.iload_n 0, 1) := by decide +kernel
theorem dX5_isFigure_1 : decode cX5_isFigure 1 = .ok (.bipush 48, 2) := by decide +kernel
theorem dX5_isFigure_3 : decode cX5_isFigure 3 = .ok (.if_icmp .lt 13, 3) := by decide +kernel
theorem dX5_isFigure_6 : decode cX5_isFigure 6 = .ok (.iload_n 0, 1) := by decide +kernel
theorem dX5_isFigure_7 : decode cX5_isFigure 7 = .ok (.bipush 57, 2) := by decide +kernel
theorem dX5_isFigure_9 : decode cX5_isFigure 9 = .ok (.if_icmp .gt 7, 3) := by decide +kernel
theorem dX5_isFigure_12 : decode cX5_isFigure 12 = .ok (.iconst 1, 1) := by decide +kernel
theorem dX5_isFigure_13 : decode cX5_isFigure 13 = .ok (.goto 4, 3) := by decide +kernel
theorem dX5_isFigure_16 : decode cX5_isFigure 16 = .ok (.iconst 0, 1) := by decide +kernel
theorem dX5_isFigure_17 : decode cX5_isFigure 17 = .ok (.ireturn, 1) := by decide +kernel
theorem bX5_isFigure_0 {κ : gK} {M : MM} {Q : Int32 → MM → Prop} (l0 : Int32)
    (h : ((l0 < (48 : Int32) → G κ mX5_isFigure 16 [.null] [] M Q) ∧ (¬ l0 < (48 : Int32) → (((57 : Int32) < l0 → G κ mX5_isFigure 16 [.null] [] M Q) ∧ (¬ (57 : Int32) < l0 → G κ mX5_isFigure 17 [.null] [.int (1 : Int32)] M Q))))) :
    G κ mX5_isFigure 0 [.int l0] [] M Q := by
  refine g_iload_n (i := 0) dX5_isFigure_0 rfl rfl ?_
  refine g_bipush (v := (48 : Int32)) dX5_isFigure_1 (by decide) ?_
  refine g_icmp_lt (tgt := 16) dX5_isFigure_3 rfl ⟨fun hc => ?_, fun hc => ?_⟩
  · replace h := h.1 hc
    exact g_sub _ (sub_c (Or.inl rfl) sub_n) h
  · replace h := h.2 hc
    refine g_iload_n (i := 0) dX5_isFigure_6 rfl rfl ?_
    refine g_bipush (v := (57 : Int32)) dX5_isFigure_7 (by decide) ?_
    refine g_icmp_gt (tgt := 16) dX5_isFigure_9 rfl ⟨fun hc => ?_, fun hc => ?_⟩
    · replace h := h.1 hc
      exact g_sub _ (sub_c (Or.inl rfl) sub_n) h
    · replace h := h.2 hc
      refine g_iconst (v := (1 : Int32)) dX5_isFigure_12 (by decide) ?_
      refine g_goto (tgt := 17) dX5_isFigure_13 rfl ?_
      exact g_sub _ (sub_c (Or.inl rfl) sub_n) h
theorem bX5_isFigure_16 {κ : gK} {M : MM} {Q : Int32 → MM → Prop} 
    (h : G κ mX5_isFigure 17 [.null] [.int (0 : Int32)] M Q) :
    G κ mX5_isFigure 16 [.null] [] M Q := by
  refine g_iconst (v := (0 : Int32)) dX5_isFigure_16 (by decide) ?_
  exact h
theorem bX5_isFigure_17 {κ : gK} {M : MM} {Q : Int32 → MM → Prop} (s0 : Int32)
    (h : (isB s0 ∧ Q s0 M)) :
    G κ mX5_isFigure 17 [.null] [.int s0] M Q := by
  exact g_zret dX5_isFigure_17 rfl (isB_n h.1) h.2
theorem eX5_isFigure {κ : gK} {M : MM} {Q : Int32 → MM → Prop} (l0 : Int32)
    (h : G κ mX5_isFigure 0 [.int l0] [] M Q) : Cl κ mX5_isFigure [.int l0] M Q := g_entry 0 pl_X5_isFigure (Nat.le_of_ble_eq_true rfl) (L := [.int l0]) rfl (g_sub _ (sub_c (Or.inr rfl) sub_n) h)
theorem dX5_blame_0 : decode cX5_blame 0 = .ok (.aload_n 0, 1) := by decide +kernel
theorem dX5_blame_1 : decode cX5_blame 1 = .ok (.getfield 22, 3) := by decide +kernel
theorem dX5_blame_4 : decode cX5_blame 4 = .ok (.ifCond .ne 13, 3) := by decide +kernel
theorem dX5_blame_7 : decode cX5_blame 7 = .ok (.aload_n 0, 1) := by decide +kernel
theorem dX5_blame_8 : decode cX5_blame 8 = .ok (.iload_n 1, 1) := by decide +kernel
theorem dX5_blame_9 : decode cX5_blame 9 = .ok (.putfield 22, 3) := by decide +kernel
theorem dX5_blame_12 : decode cX5_blame 12 = .ok (.aload_n 0, 1) := by decide +kernel
theorem dX5_blame_13 : decode cX5_blame 13 = .ok (.iload_n 2, 1) := by decide +kernel
theorem dX5_blame_14 : decode cX5_blame 14 = .ok (.putfield 25, 3) := by decide +kernel
theorem dX5_blame_17 : decode cX5_blame 17 = .ok (.return_, 1) := by decide +kernel
theorem bX5_blame_0 {κ : gK} {M : MM} {Q : Int32 → MM → Prop} (l1 : Int32) (l2 : Int32)
    (h : (((M 11 3) = 0 → ∀ M1 : MM, M1 = (pt M 11 3 l1) → (∀ M2 : MM, M2 = (pt M1 11 4 l2) → (G κ mX5_blame 17 [.null, .null, .null] [] M2 Q))) ∧ (¬ (M 11 3) = 0 → G κ mX5_blame 17 [.null, .null, .null] [] M Q))) :
    G κ mX5_blame 0 [.ref 11, .int l1, .int l2] [] M Q := by
  refine g_aload_n (i := 0) dX5_blame_0 rfl rfl ?_
  refine gf_RX5_22 rfl dX5_blame_1 sh_11 ?_
  refine g_if_ne (tgt := 17) dX5_blame_4 rfl ⟨fun hc => ?_, fun hc => ?_⟩
  · replace h := h.1 hc
    refine g_aload_n (i := 0) dX5_blame_7 rfl rfl ?_
    refine g_iload_n (i := 1) dX5_blame_8 rfl rfl ?_
    refine gp_RX5_22 rfl dX5_blame_9 sh_11 ?_
    refine g_nmM (fun M1 hM1 => ?_); replace h := h M1 hM1
    refine g_aload_n (i := 0) dX5_blame_12 rfl rfl ?_
    refine g_iload_n (i := 2) dX5_blame_13 rfl rfl ?_
    refine gp_RX5_25 rfl dX5_blame_14 sh_11 ?_
    refine g_nmM (fun M2 hM2 => ?_); replace h := h M2 hM2
    exact g_sub _ (sub_c (Or.inl rfl) (sub_c (Or.inl rfl) (sub_c (Or.inl rfl) sub_n))) h
  · replace h := h.2 hc
    exact g_sub _ (sub_c (Or.inl rfl) (sub_c (Or.inl rfl) (sub_c (Or.inl rfl) sub_n))) h
theorem bX5_blame_17 {κ : gK} {M : MM} {Q : Int32 → MM → Prop} 
    (h : Q 0 M) :
    G κ mX5_blame 17 [.null, .null, .null] [] M Q := by
  exact g_vret dX5_blame_17 rfl h
theorem eX5_blame {κ : gK} {M : MM} {Q : Int32 → MM → Prop} (l1 : Int32) (l2 : Int32)
    (h : G κ mX5_blame 0 [.ref 11, .int l1, .int l2] [] M Q) : Cl κ mX5_blame [.ref 11, .int l1, .int l2] M Q := g_entry 0 pl_X5_blame (Nat.le_of_ble_eq_true rfl) (L := [.ref 11, .int l1, .int l2]) rfl (g_sub _ (sub_c (Or.inr rfl) (sub_c (Or.inr rfl) (sub_c (Or.inr rfl) sub_n))) h)
