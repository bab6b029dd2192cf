theorem dX8_begin_0 : decode cX8_begin 0 = .ok (.iconst 0, 1) := by decide +kernel
theorem dX8_begin_1 : decode cX8_begin 1 = .ok (.istore_n 2, 1) := by decide +kernel
theorem dX8_begin_2 : decode cX8_begin 2 = .ok (.iload_n 2, 1) := by decide +kernel
theorem dX8_begin_3 : decode cX8_begin 3 = .ok (.bipush 8, 2) := by decide +kernel
theorem dX8_begin_5 : decode cX8_begin 5 = .ok (.if_icmp .ge 66, 3) := by decide +kernel
theorem dX8_begin_8 : decode cX8_begin 8 = .ok (.aload_n 0, 1) := by decide +kernel
theorem dX8_begin_9 : decode cX8_begin 9 = .ok (.getfield 9, 3) := by decide +kernel
theorem dX8_begin_12 : decode cX8_begin 12 = .ok (.iload_n 2, 1) := by decide +kernel
theorem dX8_begin_13 : decode cX8_begin 13 = .ok (.aload_n 1, 1) := by decide +kernel
theorem dX8_begin_14 : decode cX8_begin 14 = .ok (.iload_n 2, 1) := by decide +kernel
theorem dX8_begin_15 : decode cX8_begin 15 = .ok (.invokevirtual 28, 3) := by decide +kernel
theorem dX8_begin_18 : decode cX8_begin 18 = .ok (.ifCond .eq 14, 3) := by decide +kernel
theorem dX8_begin_21 : decode cX8_begin 21 = .ok (.iconst 1, 1) := by decide +kernel
theorem dX8_begin_22 : decode cX8_begin 22 = .ok (.aload_n 1, 1) := by decide +kernel
theorem dX8_begin_23 : decode cX8_begin 23 = .ok (.getfield 34, 3) := by decide +kernel
theorem dX8_begin_26 : decode cX8_begin 26 = .ok (.iload_n 2, 1) := by decide +kernel
theorem dX8_begin_27 : decode cX8_begin 27 = .ok (.iaload, 1) := by decide +kernel
theorem dX8_begin_28 : decode cX8_begin 28 = .ok (.ishl, 1) := by decide +kernel
theorem dX8_begin_29 : decode cX8_begin 29 = .ok (.goto 4, 3) := by decide +kernel
theorem dX8_begin_32 : decode cX8_begin 32 = .ok (.iconst 0, 1) := by decide +kernel
theorem dX8_begin_33 : decode cX8_begin 33 = .ok (.iastore, 1) := by decide +kernel
theorem dX8_begin_34 : decode cX8_begin 34 = .ok (.aload_n 0, 1) := by decide +kernel
theorem dX8_begin_35 : decode cX8_begin 35 = .ok (.getfield 15, 3) := by decide +kernel
theorem dX8_begin_38 : decode cX8_begin 38 = .ok (.iload_n 2, 1) := by decide +kernel
theorem dX8_begin_39 : decode cX8_begin 39 = .ok (.aload_n 1, 1) := by decide +kernel
theorem dX8_begin_40 : decode cX8_begin 40 = .ok (.iload_n 2, 1) := by decide +kernel
theorem dX8_begin_41 : decode cX8_begin 41 = .ok (.invokevirtual 28, 3) := by decide +kernel
theorem dX8_begin_44 : decode cX8_begin 44 = .ok (.ifCond .eq 12, 3) := by decide +kernel
theorem dX8_begin_47 : decode cX8_begin 47 = .ok (.aload_n 1, 1) := by decide +kernel
theorem dX8_begin_48 : decode cX8_begin 48 = .ok (.getfield 37, 3) := by decide +kernel
theorem dX8_begin_51 : decode cX8_begin 51 = .ok (.iload_n 2, 1) := by decide +kernel
theorem dX8_begin_52 : decode cX8_begin 52 = .ok (.iaload, 1) := by decide +kernel
theorem dX8_begin_53 : decode cX8_begin 53 = .ok (.goto 4, 3) := by decide +kernel
theorem dX8_begin_56 : decode cX8_begin 56 = .ok (.iconst 0, 1) := by decide +kernel
theorem dX8_begin_57 : decode cX8_begin 57 = .ok (.iastore, 1) := by decide +kernel
theorem dX8_begin_58 : decode cX8_begin 58 = .ok (.aload_n 0, 1) := by decide +kernel
theorem dX8_begin_59 : decode cX8_begin 59 = .ok (.getfield 18, 3) := by decide +kernel
theorem dX8_begin_62 : decode cX8_begin 62 = .ok (.iload_n 2, 1) := by decide +kernel
theorem dX8_begin_63 : decode cX8_begin 63 = .ok (.iconst 0, 1) := by decide +kernel
theorem dX8_begin_64 : decode cX8_begin 64 = .ok (.iastore, 1) := by decide +kernel
theorem dX8_begin_65 : decode cX8_begin 65 = .ok (.iinc 2 1, 3) := by decide +kernel
theorem dX8_begin_68 : decode cX8_begin 68 = .ok (.goto (-66), 3) := by decide +kernel
theorem dX8_begin_71 : decode cX8_begin 71 = .ok (.aload_n 0, 1) := by decide +kernel
theorem dX8_begin_72 : decode cX8_begin 72 = .ok (.iconst 0, 1) := by decide +kernel
theorem dX8_begin_73 : decode cX8_begin 73 = .ok (.putfield 21, 3) := by decide +kernel
theorem dX8_begin_76 : decode cX8_begin 76 = .ok (.aload_n 0, 1) := by decide +kernel
theorem dX8_begin_77 : decode cX8_begin 77 = .ok (.iconst 0, 1) := by decide +kernel
theorem dX8_begin_78 : decode cX8_begin 78 = .ok (.putfield 25, 3) := by decide +kernel
theorem dX8_begin_81 : decode cX8_begin 81 = .ok (.return_, 1) := by decide +kernel
theorem bX8_begin_0 {κ : gK} {M : MM} {Q : Int32 → MM → Prop} (o0 : Nat) (o1 : Nat) (ho0 : stO o0) (ho1 : twO o1)
    (h : G κ mX8_begin 2 [.ref o0, .ref o1, .int (0 : Int32)] [] M Q) :
    G κ mX8_begin 0 [.ref o0, .ref o1, .null] [] M Q := by
  refine g_iconst (v := (0 : Int32)) dX8_begin_0 (by decide) ?_
  refine g_istore_n (i := 2) (L' := [.ref o0, .ref o1, .int (0 : Int32)]) dX8_begin_1 rfl (Nat.le_of_ble_eq_true rfl) rfl rfl ?_
  exact h
theorem bX8_begin_2 {κ : gK} {M : MM} {Q : Int32 → MM → Prop} (o0 : Nat) (o1 : Nat) (ho0 : stO o0) (ho1 : twO o1) (l2 : Int32)
    (h : (((8 : Int32) ≤ l2 → ∀ M1 : MM, M1 = (pt M o0 3 (0 : Int32)) → (∀ M2 : MM, M2 = (pt M1 o0 4 (0 : Int32)) → (Q 0 M2))) ∧ (¬ (8 : Int32) ≤ l2 → Cl κ mX9_hasPerson [.ref o1, .int l2] M (fun r3 M3 => ((r3 = 0 → G κ mX8_begin 33 [.ref o0, .ref o1, .int l2] [.int (0 : Int32), .int l2, .ref (o0 + 1)] M3 Q) ∧ (¬ r3 = 0 → (vp_in l2 8) ∧ (G κ mX8_begin 33 [.ref o0, .ref o1, .int l2] [.int (jshl (1 : Int32) (M3 (o1 + 2) (l2).toNatClampNeg)), .int l2, .ref (o0 + 1)] M3 Q))))))) :
    G κ mX8_begin 2 [.ref o0, .ref o1, .int l2] [] M Q := by
  refine g_iload_n (i := 2) dX8_begin_2 rfl rfl ?_
  refine g_bipush (v := (8 : Int32)) dX8_begin_3 (by decide) ?_
  refine g_icmp_ge (tgt := 71) dX8_begin_5 rfl ⟨fun hc => ?_, fun hc => ?_⟩
  · replace h := h.1 hc
    refine g_aload_n (i := 0) dX8_begin_71 rfl rfl ?_
    refine g_iconst (v := (0 : Int32)) dX8_begin_72 (by decide) ?_
    refine gp_RX8_21 rfl dX8_begin_73 ho0.1 ?_
    refine g_nmM (fun M1 hM1 => ?_); replace h := h M1 hM1
    refine g_aload_n (i := 0) dX8_begin_76 rfl rfl ?_
    refine g_iconst (v := (0 : Int32)) dX8_begin_77 (by decide) ?_
    refine gp_RX8_25 rfl dX8_begin_78 ho0.1 ?_
    refine g_nmM (fun M2 hM2 => ?_); replace h := h M2 hM2
    exact g_vret dX8_begin_81 rfl h
  · replace h := h.2 hc
    refine g_aload_n (i := 0) dX8_begin_8 rfl rfl ?_
    refine gf_RX8_9 rfl dX8_begin_9 ho0.1 ?_
    refine g_iload_n (i := 2) dX8_begin_12 rfl rfl ?_
    refine g_aload_n (i := 1) dX8_begin_13 rfl rfl ?_
    refine g_iload_n (i := 2) dX8_begin_14 rfl rfl ?_
    refine gc_RX8_28 rfl (Nat.le_of_ble_eq_true rfl) dX8_begin_15 ho1.1 (Nat.le_of_ble_eq_true rfl) ?_
    refine Cl.mono h (fun r3 M3 h => ?_)
    refine g_if_eq (tgt := 32) dX8_begin_18 rfl ⟨fun hc => ?_, fun hc => ?_⟩
    · replace h := h.1 hc
      refine g_iconst (v := (0 : Int32)) dX8_begin_32 (by decide) ?_
      exact h
    · replace h := h.2 hc
      refine g_iconst (v := (1 : Int32)) dX8_begin_21 (by decide) ?_
      refine g_aload_n (i := 1) dX8_begin_22 rfl rfl ?_
      refine gf_RX8_34 rfl dX8_begin_23 ho1.1 ?_
      refine g_iload_n (i := 2) dX8_begin_26 rfl rfl ?_
      have hv1 := h.1; replace h := h.2
      refine g_iald dX8_begin_27 ho1.2.2.1 hv1 ?_
      refine g_ishl dX8_begin_28 ?_
      refine g_goto (tgt := 33) dX8_begin_29 rfl ?_
      exact h
theorem bX8_begin_33 {κ : gK} {M : MM} {Q : Int32 → MM → Prop} (o0 : Nat) (o1 : Nat) (ho0 : stO o0) (ho1 : twO o1) (l2 : Int32) (s0 : Int32) (s1 : Int32)
    (h : (vp_in s1 8) ∧ (∀ M1 : MM, M1 = (pt M (o0 + 1) (s1).toNatClampNeg s0) → (Cl κ mX9_hasPerson [.ref o1, .int l2] M1 (fun r2 M2 => ((r2 = 0 → G κ mX8_begin 57 [.ref o0, .ref o1, .int l2] [.int (0 : Int32), .int l2, .ref (o0 + 2)] M2 Q) ∧ (¬ r2 = 0 → (vp_in l2 8) ∧ (G κ mX8_begin 57 [.ref o0, .ref o1, .int l2] [.int (M2 (o1 + 3) (l2).toNatClampNeg), .int l2, .ref (o0 + 2)] M2 Q))))))) :
    G κ mX8_begin 33 [.ref o0, .ref o1, .int l2] [.int s0, .int s1, .ref (o0 + 1)] M Q := by
  have hv1 := h.1; replace h := h.2
  refine g_iastP dX8_begin_33 ho0.2.1 hv1 ?_
  refine g_nmM (fun M1 hM1 => ?_); replace h := h M1 hM1
  refine g_aload_n (i := 0) dX8_begin_34 rfl rfl ?_
  refine gf_RX8_15 rfl dX8_begin_35 ho0.1 ?_
  refine g_iload_n (i := 2) dX8_begin_38 rfl rfl ?_
  refine g_aload_n (i := 1) dX8_begin_39 rfl rfl ?_
  refine g_iload_n (i := 2) dX8_begin_40 rfl rfl ?_
  refine gc_RX8_28 rfl (Nat.le_of_ble_eq_true rfl) dX8_begin_41 ho1.1 (Nat.le_of_ble_eq_true rfl) ?_
  refine Cl.mono h (fun r2 M2 h => ?_)
  refine g_if_eq (tgt := 56) dX8_begin_44 rfl ⟨fun hc => ?_, fun hc => ?_⟩
  · replace h := h.1 hc
    refine g_iconst (v := (0 : Int32)) dX8_begin_56 (by decide) ?_
    exact h
  · replace h := h.2 hc
    refine g_aload_n (i := 1) dX8_begin_47 rfl rfl ?_
    refine gf_RX8_37 rfl dX8_begin_48 ho1.1 ?_
    refine g_iload_n (i := 2) dX8_begin_51 rfl rfl ?_
    have hv2 := h.1; replace h := h.2
    refine g_iald dX8_begin_52 ho1.2.2.2.1 hv2 ?_
    refine g_goto (tgt := 57) dX8_begin_53 rfl ?_
    exact h
theorem bX8_begin_57 {κ : gK} {M : MM} {Q : Int32 → MM → Prop} (o0 : Nat) (o1 : Nat) (ho0 : stO o0) (ho1 : twO o1) (l2 : Int32) (s0 : Int32) (s1 : Int32)
    (h : (vp_in s1 8) ∧ (∀ M1 : MM, M1 = (pt M (o0 + 2) (s1).toNatClampNeg s0) → ((vp_in l2 8) ∧ (∀ M2 : MM, M2 = (pt M1 (o0 + 3) (l2).toNatClampNeg (0 : Int32)) → (G κ mX8_begin 2 [.ref o0, .ref o1, .int (l2 + 1)] [] M2 Q))))) :
    G κ mX8_begin 57 [.ref o0, .ref o1, .int l2] [.int s0, .int s1, .ref (o0 + 2)] M Q := by
  have hv1 := h.1; replace h := h.2
  refine g_iastP dX8_begin_57 ho0.2.2.1 hv1 ?_
  refine g_nmM (fun M1 hM1 => ?_); replace h := h M1 hM1
  refine g_aload_n (i := 0) dX8_begin_58 rfl rfl ?_
  refine gf_RX8_18 rfl dX8_begin_59 ho0.1 ?_
  refine g_iload_n (i := 2) dX8_begin_62 rfl rfl ?_
  refine g_iconst (v := (0 : Int32)) dX8_begin_63 (by decide) ?_
  have hv2 := h.1; replace h := h.2
  refine g_iastP dX8_begin_64 ho0.2.2.2 hv2 ?_
  refine g_nmM (fun M2 hM2 => ?_); replace h := h M2 hM2
  refine g_iinc (v := (l2 + 1)) (L' := [.ref o0, .ref o1, .int (l2 + 1)]) dX8_begin_65 rfl rfl (Nat.le_of_ble_eq_true rfl) rfl rfl ?_
  refine g_goto (tgt := 2) dX8_begin_68 rfl ?_
  exact h
theorem eX8_begin {κ : gK} {M : MM} {Q : Int32 → MM → Prop} (o0 : Nat) (o1 : Nat)
    (h : G κ mX8_begin 0 [.ref o0, .ref o1, .null] [] M Q) : Cl κ mX8_begin [.ref o0, .ref o1] M Q := g_entry 1 pl_X8_begin (Nat.le_of_ble_eq_true rfl) (L := [.ref o0, .ref o1, .null]) rfl (g_sub _ (sub_c (Or.inr rfl) (sub_c (Or.inr rfl) (sub_c (Or.inr rfl) sub_n))) h)
theorem dX8_copyFrom_0 : decode cX8_copyFrom 0 = .ok (.aload_n 1, 1) := by decide +kernel
theorem dX8_copyFrom_1 : decode cX8_copyFrom 1 = .ok (.getfield 9, 3) := by decide +kernel
theorem dX8_copyFrom_4 : decode cX8_copyFrom 4 = .ok (.iconst 0, 1) := by decide +kernel
theorem dX8_copyFrom_5 : decode cX8_copyFrom 5 = .ok (.aload_n 0, 1) := by decide +kernel
theorem dX8_copyFrom_6 : decode cX8_copyFrom 6 = .ok (.getfield 9, 3) := by decide +kernel
theorem dX8_copyFrom_9 : decode cX8_copyFrom 9 = .ok (.iconst 0, 1) := by decide +kernel
theorem dX8_copyFrom_10 : decode cX8_copyFrom 10 = .ok (.bipush 8, 2) := by decide +kernel
theorem dX8_copyFrom_12 : decode cX8_copyFrom 12 = .ok (.invokestatic 40, 3) := by decide +kernel
theorem dX8_copyFrom_15 : decode cX8_copyFrom 15 = .ok (.aload_n 1, 1) := by decide +kernel
theorem dX8_copyFrom_16 : decode cX8_copyFrom 16 = .ok (.getfield 15, 3) := by decide +kernel
theorem dX8_copyFrom_19 : decode cX8_copyFrom 19 = .ok (.iconst 0, 1) := by decide +kernel
theorem dX8_copyFrom_20 : decode cX8_copyFrom 20 = .ok (.aload_n 0, 1) := by decide +kernel
theorem dX8_copyFrom_21 : decode cX8_copyFrom 21 = .ok (.getfield 15, 3) := by decide +kernel
theorem dX8_copyFrom_24 : decode cX8_copyFrom 24 = .ok (.iconst 0, 1) := by decide +kernel
theorem dX8_copyFrom_25 : decode cX8_copyFrom 25 = .ok (.bipush 8, 2) := by decide +kernel
theorem dX8_copyFrom_27 : decode cX8_copyFrom 27 = .ok (.invokestatic 40, 3) := by decide +kernel
theorem dX8_copyFrom_30 : decode cX8_copyFrom 30 = .ok (.aload_n 1, 1) := by decide +kernel
theorem dX8_copyFrom_31 : decode cX8_copyFrom 31 = .ok (.getfield 18, 3) := by decide +kernel
theorem dX8_copyFrom_34 : decode cX8_copyFrom 34 = .ok (.iconst 0, 1) := by decide +kernel
theorem dX8_copyFrom_35 : decode cX8_copyFrom 35 = .ok (.aload_n 0, 1) := by decide +kernel
theorem dX8_copyFrom_36 : decode cX8_copyFrom 36 = .ok (.getfield 18, 3) := by decide +kernel
theorem dX8_copyFrom_39 : decode cX8_copyFrom 39 = .ok (.iconst 0, 1) := by decide +kernel
theorem dX8_copyFrom_40 : decode cX8_copyFrom 40 = .ok (.bipush 8, 2) := by decide +kernel
theorem dX8_copyFrom_42 : decode cX8_copyFrom 42 = .ok (.invokestatic 40, 3) := by decide +kernel
theorem dX8_copyFrom_45 : decode cX8_copyFrom 45 = .ok (.aload_n 0, 1) := by decide +kernel
theorem dX8_copyFrom_46 : decode cX8_copyFrom 46 = .ok (.aload_n 1, 1) := by decide +kernel
theorem dX8_copyFrom_47 : decode cX8_copyFrom 47 = .ok (.getfield 21, 3) := by decide +kernel
theorem dX8_copyFrom_50 : decode cX8_copyFrom 50 = .ok (.putfield 21, 3) := by decide +kernel
theorem dX8_copyFrom_53 : decode cX8_copyFrom 53 = .ok (.aload_n 0, 1) := by decide +kernel
theorem dX8_copyFrom_54 : decode cX8_copyFrom 54 = .ok (.aload_n 1, 1) := by decide +kernel
theorem dX8_copyFrom_55 : decode cX8_copyFrom 55 = .ok (.getfield 25, 3) := by decide +kernel
theorem dX8_copyFrom_58 : decode cX8_copyFrom 58 = .ok (.putfield 25, 3) := by decide +kernel
theorem dX8_copyFrom_61 : decode cX8_copyFrom 61 = .ok (.return_, 1) := by decide +kernel
theorem bX8_copyFrom_0 {κ : gK} {M : MM} {Q : Int32 → MM → Prop} (o0 : Nat) (o1 : Nat) (ho0 : stO o0) (ho1 : stO o1)
    (h : ∀ M1 : MM, M1 = (cp M (o1 + 1) (o0 + 1) 8) → (∀ M2 : MM, M2 = (cp M1 (o1 + 2) (o0 + 2) 8) → (∀ M3 : MM, M3 = (cp M2 (o1 + 3) (o0 + 3) 8) → (∀ M4 : MM, M4 = (pt M3 o0 3 (M3 o1 3)) → (∀ M5 : MM, M5 = (pt M4 o0 4 (M4 o1 4)) → (Q 0 M5)))))) :
    G κ mX8_copyFrom 0 [.ref o0, .ref o1] [] M Q := by
  refine g_aload_n (i := 1) dX8_copyFrom_0 rfl rfl ?_
  refine gf_RX8_9 rfl dX8_copyFrom_1 ho1.1 ?_
  refine g_iconst (v := (0 : Int32)) dX8_copyFrom_4 (by decide) ?_
  refine g_aload_n (i := 0) dX8_copyFrom_5 rfl rfl ?_
  refine gf_RX8_9 rfl dX8_copyFrom_6 ho0.1 ?_
  refine g_iconst (v := (0 : Int32)) dX8_copyFrom_9 (by decide) ?_
  refine g_bipush (v := (8 : Int32)) dX8_copyFrom_10 (by decide) ?_
  refine gc_RX8_40 rfl dX8_copyFrom_12 ho1.2.1 ho0.2.1 (by decide) (by decide) (by decide) (Nat.le_of_ble_eq_true rfl) rfl ?_
  refine g_nmM (fun M1 hM1 => ?_); replace h := h M1 hM1
  refine g_aload_n (i := 1) dX8_copyFrom_15 rfl rfl ?_
  refine gf_RX8_15 rfl dX8_copyFrom_16 ho1.1 ?_
  refine g_iconst (v := (0 : Int32)) dX8_copyFrom_19 (by decide) ?_
  refine g_aload_n (i := 0) dX8_copyFrom_20 rfl rfl ?_
  refine gf_RX8_15 rfl dX8_copyFrom_21 ho0.1 ?_
  refine g_iconst (v := (0 : Int32)) dX8_copyFrom_24 (by decide) ?_
  refine g_bipush (v := (8 : Int32)) dX8_copyFrom_25 (by decide) ?_
  refine gc_RX8_40 rfl dX8_copyFrom_27 ho1.2.2.1 ho0.2.2.1 (by decide) (by decide) (by decide) (Nat.le_of_ble_eq_true rfl) rfl ?_
  refine g_nmM (fun M2 hM2 => ?_); replace h := h M2 hM2
  refine g_aload_n (i := 1) dX8_copyFrom_30 rfl rfl ?_
  refine gf_RX8_18 rfl dX8_copyFrom_31 ho1.1 ?_
  refine g_iconst (v := (0 : Int32)) dX8_copyFrom_34 (by decide) ?_
  refine g_aload_n (i := 0) dX8_copyFrom_35 rfl rfl ?_
  refine gf_RX8_18 rfl dX8_copyFrom_36 ho0.1 ?_
  refine g_iconst (v := (0 : Int32)) dX8_copyFrom_39 (by decide) ?_
  refine g_bipush (v := (8 : Int32)) dX8_copyFrom_40 (by decide) ?_
  refine gc_RX8_40 rfl dX8_copyFrom_42 ho1.2.2.2 ho0.2.2.2 (by decide) (by decide) (by decide) (Nat.le_of_ble_eq_true rfl) rfl ?_
  refine g_nmM (fun M3 hM3 => ?_); replace h := h M3 hM3
  refine g_aload_n (i := 0) dX8_copyFrom_45 rfl rfl ?_
  refine g_aload_n (i := 1) dX8_copyFrom_46 rfl rfl ?_
  refine gf_RX8_21 rfl dX8_copyFrom_47 ho1.1 ?_
  refine gp_RX8_21 rfl dX8_copyFrom_50 ho0.1 ?_
  refine g_nmM (fun M4 hM4 => ?_); replace h := h M4 hM4
  refine g_aload_n (i := 0) dX8_copyFrom_53 rfl rfl ?_
  refine g_aload_n (i := 1) dX8_copyFrom_54 rfl rfl ?_
  refine gf_RX8_25 rfl dX8_copyFrom_55 ho1.1 ?_
  refine gp_RX8_25 rfl dX8_copyFrom_58 ho0.1 ?_
  refine g_nmM (fun M5 hM5 => ?_); replace h := h M5 hM5
  exact g_vret dX8_copyFrom_61 rfl h
theorem eX8_copyFrom {κ : gK} {M : MM} {Q : Int32 → MM → Prop} (o0 : Nat) (o1 : Nat)
    (h : G κ mX8_copyFrom 0 [.ref o0, .ref o1] [] M Q) : Cl κ mX8_copyFrom [.ref o0, .ref o1] M Q := g_entry 0 pl_X8_copyFrom (Nat.le_of_ble_eq_true rfl) (L := [.ref o0, .ref o1]) rfl (g_sub _ (sub_c (Or.inr rfl) (sub_c (Or.inr rfl) sub_n)) h)
theorem dX8_hearCrow_0 : decode cX8_hearCrow 0 = .ok (.iconst 0, 1) := by decide +kernel
theorem dX8_hearCrow_1 : decode cX8_hearCrow 1 = .ok (.istore_n 3, 1) := by decide +kernel
theorem dX8_hearCrow_2 : decode cX8_hearCrow 2 = .ok (.iconst 0, 1) := by decide +kernel
theorem dX8_hearCrow_3 : decode cX8_hearCrow 3 = .ok (.istore 4, 2) := by decide +kernel
theorem dX8_hearCrow_5 : decode cX8_hearCrow 5 = .ok (.iload 4, 2) := by decide +kernel
theorem dX8_hearCrow_7 : decode cX8_hearCrow 7 = .ok (.bipush 8, 2) := by decide +kernel
theorem dX8_hearCrow_9 : decode cX8_hearCrow 9 = .ok (.if_icmp .ge 86, 3) := by decide +kernel
theorem dX8_hearCrow_12 : decode cX8_hearCrow 12 = .ok (.aload_n 1, 1) := by decide +kernel
theorem dX8_hearCrow_13 : decode cX8_hearCrow 13 = .ok (.iload 4, 2) := by decide +kernel
theorem dX8_hearCrow_15 : decode cX8_hearCrow 15 = .ok (.invokevirtual 28, 3) := by decide +kernel
theorem dX8_hearCrow_18 : decode cX8_hearCrow 18 = .ok (.ifCond .eq 71, 3) := by decide +kernel
theorem dX8_hearCrow_21 : decode cX8_hearCrow 21 = .ok (.aload_n 0, 1) := by decide +kernel
theorem dX8_hearCrow_22 : decode cX8_hearCrow 22 = .ok (.getfield 15, 3) := by decide +kernel
theorem dX8_hearCrow_25 : decode cX8_hearCrow 25 = .ok (.iload 4, 2) := by decide +kernel
theorem dX8_hearCrow_27 : decode cX8_hearCrow 27 = .ok (.iaload, 1) := by decide +kernel
theorem dX8_hearCrow_28 : decode cX8_hearCrow 28 = .ok (.iload_n 2, 1) := by decide +kernel
theorem dX8_hearCrow_29 : decode cX8_hearCrow 29 = .ok (.if_icmp .lt 60, 3) := by decide +kernel
theorem dX8_hearCrow_32 : decode cX8_hearCrow 32 = .ok (.aload_n 0, 1) := by decide +kernel
theorem dX8_hearCrow_33 : decode cX8_hearCrow 33 = .ok (.getfield 9, 3) := by decide +kernel
theorem dX8_hearCrow_36 : decode cX8_hearCrow 36 = .ok (.iload 4, 2) := by decide +kernel
theorem dX8_hearCrow_38 : decode cX8_hearCrow 38 = .ok (.aload_n 1, 1) := by decide +kernel
theorem dX8_hearCrow_39 : decode cX8_hearCrow 39 = .ok (.aload_n 1, 1) := by decide +kernel
theorem dX8_hearCrow_40 : decode cX8_hearCrow 40 = .ok (.getfield 46, 3) := by decide +kernel
theorem dX8_hearCrow_43 : decode cX8_hearCrow 43 = .ok (.iload 4, 2) := by decide +kernel
theorem dX8_hearCrow_45 : decode cX8_hearCrow 45 = .ok (.iaload, 1) := by decide +kernel
theorem dX8_hearCrow_46 : decode cX8_hearCrow 46 = .ok (.aload_n 0, 1) := by decide +kernel
theorem dX8_hearCrow_47 : decode cX8_hearCrow 47 = .ok (.getfield 9, 3) := by decide +kernel
theorem dX8_hearCrow_50 : decode cX8_hearCrow 50 = .ok (.iload 4, 2) := by decide +kernel
theorem dX8_hearCrow_52 : decode cX8_hearCrow 52 = .ok (.iaload, 1) := by decide +kernel
theorem dX8_hearCrow_53 : decode cX8_hearCrow 53 = .ok (.aload_n 0, 1) := by decide +kernel
theorem dX8_hearCrow_54 : decode cX8_hearCrow 54 = .ok (.getfield 21, 3) := by decide +kernel
theorem dX8_hearCrow_57 : decode cX8_hearCrow 57 = .ok (.invokevirtual 49, 3) := by decide +kernel
theorem dX8_hearCrow_60 : decode cX8_hearCrow 60 = .ok (.iastore, 1) := by decide +kernel
theorem dX8_hearCrow_61 : decode cX8_hearCrow 61 = .ok (.aload_n 0, 1) := by decide +kernel
theorem dX8_hearCrow_62 : decode cX8_hearCrow 62 = .ok (.getfield 18, 3) := by decide +kernel
theorem dX8_hearCrow_65 : decode cX8_hearCrow 65 = .ok (.iload 4, 2) := by decide +kernel
theorem dX8_hearCrow_67 : decode cX8_hearCrow 67 = .ok (.aload_n 0, 1) := by decide +kernel
theorem dX8_hearCrow_68 : decode cX8_hearCrow 68 = .ok (.getfield 18, 3) := by decide +kernel
theorem dX8_hearCrow_71 : decode cX8_hearCrow 71 = .ok (.iload 4, 2) := by decide +kernel
theorem dX8_hearCrow_73 : decode cX8_hearCrow 73 = .ok (.iaload, 1) := by decide +kernel
theorem dX8_hearCrow_74 : decode cX8_hearCrow 74 = .ok (.iconst 1, 1) := by decide +kernel
theorem dX8_hearCrow_75 : decode cX8_hearCrow 75 = .ok (.iadd, 1) := by decide +kernel
theorem dX8_hearCrow_76 : decode cX8_hearCrow 76 = .ok (.ldc 53, 2) := by decide +kernel
theorem dX8_hearCrow_78 : decode cX8_hearCrow 78 = .ok (.invokestatic 54, 3) := by decide +kernel
theorem dX8_hearCrow_81 : decode cX8_hearCrow 81 = .ok (.iastore, 1) := by decide +kernel
theorem dX8_hearCrow_82 : decode cX8_hearCrow 82 = .ok (.iload_n 3, 1) := by decide +kernel
theorem dX8_hearCrow_83 : decode cX8_hearCrow 83 = .ok (.iconst 1, 1) := by decide +kernel
theorem dX8_hearCrow_84 : decode cX8_hearCrow 84 = .ok (.iload 4, 2) := by decide +kernel
theorem dX8_hearCrow_86 : decode cX8_hearCrow 86 = .ok (.ishl, 1) := by decide +kernel
theorem dX8_hearCrow_87 : decode cX8_hearCrow 87 = .ok (.ior, 1) := by decide +kernel
theorem dX8_hearCrow_88 : decode cX8_hearCrow 88 = .ok (.istore_n 3, 1) := by decide +kernel
theorem dX8_hearCrow_89 : decode cX8_hearCrow 89 = .ok (.iinc 4 1, 3) := by decide +kernel
theorem dX8_hearCrow_92 : decode cX8_hearCrow 92 = .ok (.goto (-87), 3) := by decide +kernel
theorem dX8_hearCrow_95 : decode cX8_hearCrow 95 = .ok (.iload_n 3, 1) := by decide +kernel
theorem dX8_hearCrow_96 : decode cX8_hearCrow 96 = .ok (.ireturn, 1) := by decide +kernel
theorem bX8_hearCrow_0 {κ : gK} {M : MM} {Q : Int32 → MM → Prop} (o0 : Nat) (o1 : Nat) (ho0 : stO o0) (ho1 : twO o1) (l2 : Int32)
    (h : G κ mX8_hearCrow 5 [.ref o0, .ref o1, .int l2, .int (0 : Int32), .int (0 : Int32)] [] M Q) :
    G κ mX8_hearCrow 0 [.ref o0, .ref o1, .int l2, .null, .null] [] M Q := by
  refine g_iconst (v := (0 : Int32)) dX8_hearCrow_0 (by decide) ?_
  refine g_istore_n (i := 3) (L' := [.ref o0, .ref o1, .int l2, .int (0 : Int32), .null]) dX8_hearCrow_1 rfl (Nat.le_of_ble_eq_true rfl) rfl rfl ?_
  refine g_iconst (v := (0 : Int32)) dX8_hearCrow_2 (by decide) ?_
  refine g_istore (i := 4) (L' := [.ref o0, .ref o1, .int l2, .int (0 : Int32), .int (0 : Int32)]) dX8_hearCrow_3 (Nat.le_of_ble_eq_true rfl) rfl rfl ?_
  exact h
theorem bX8_hearCrow_5 {κ : gK} {M : MM} {Q : Int32 → MM → Prop} (o0 : Nat) (o1 : Nat) (ho0 : stO o0) (ho1 : twO o1) (l2 : Int32) (l3 : Int32) (l4 : Int32)
    (h : (((8 : Int32) ≤ l4 → Q l3 M) ∧ (¬ (8 : Int32) ≤ l4 → Cl κ mX9_hasPerson [.ref o1, .int l4] M (fun r1 M1 => ((r1 = 0 → G κ mX8_hearCrow 89 [.ref o0, .ref o1, .int l2, .int l3, .int l4] [] M1 Q) ∧ (¬ r1 = 0 → (vp_in l4 8) ∧ ((((M1 (o0 + 2) (l4).toNatClampNeg) < l2 → G κ mX8_hearCrow 89 [.ref o0, .ref o1, .int l2, .int l3, .int l4] [] M1 Q) ∧ (¬ (M1 (o0 + 2) (l4).toNatClampNeg) < l2 → Cl κ mX9_behindCrow [.ref o1, .int (M1 (o1 + 1) (l4).toNatClampNeg), .int (M1 (o0 + 1) (l4).toNatClampNeg), .int (M1 o0 3)] M1 (fun r2 M2 => ∀ M3 : MM, M3 = (pt M2 (o0 + 1) (l4).toNatClampNeg r2) → (∀ M4 : MM, M4 = (pt M3 (o0 + 3) (l4).toNatClampNeg (jmin ((M3 (o0 + 3) (l4).toNatClampNeg) + (1 : Int32)) (999999 : Int32))) → (∀ v5 : Int32, v5 = (l3 ||| (jshl (1 : Int32) l4)) → (G κ mX8_hearCrow 89 [.ref o0, .ref o1, .int l2, .int v5, .int l4] [] M4 Q))))))))))))) :
    G κ mX8_hearCrow 5 [.ref o0, .ref o1, .int l2, .int l3, .int l4] [] M Q := by
  refine g_iload (i := 4) dX8_hearCrow_5 rfl ?_
  refine g_bipush (v := (8 : Int32)) dX8_hearCrow_7 (by decide) ?_
  refine g_icmp_ge (tgt := 95) dX8_hearCrow_9 rfl ⟨fun hc => ?_, fun hc => ?_⟩
  · replace h := h.1 hc
    refine g_iload_n (i := 3) dX8_hearCrow_95 rfl rfl ?_
    exact g_iret dX8_hearCrow_96 rfl h
  · replace h := h.2 hc
    refine g_aload_n (i := 1) dX8_hearCrow_12 rfl rfl ?_
    refine g_iload (i := 4) dX8_hearCrow_13 rfl ?_
    refine gc_RX8_28 rfl (Nat.le_of_ble_eq_true rfl) dX8_hearCrow_15 ho1.1 (Nat.le_of_ble_eq_true rfl) ?_
    refine Cl.mono h (fun r1 M1 h => ?_)
    refine g_if_eq (tgt := 89) dX8_hearCrow_18 rfl ⟨fun hc => ?_, fun hc => ?_⟩
    · replace h := h.1 hc
      exact h
    · replace h := h.2 hc
      refine g_aload_n (i := 0) dX8_hearCrow_21 rfl rfl ?_
      refine gf_RX8_15 rfl dX8_hearCrow_22 ho0.1 ?_
      refine g_iload (i := 4) dX8_hearCrow_25 rfl ?_
      have hv1 := h.1; replace h := h.2
      refine g_iald dX8_hearCrow_27 ho0.2.2.1 hv1 ?_
      refine g_iload_n (i := 2) dX8_hearCrow_28 rfl rfl ?_
      refine g_icmp_lt (tgt := 89) dX8_hearCrow_29 rfl ⟨fun hc => ?_, fun hc => ?_⟩
      · replace h := h.1 hc
        exact h
      · replace h := h.2 hc
        refine g_aload_n (i := 0) dX8_hearCrow_32 rfl rfl ?_
        refine gf_RX8_9 rfl dX8_hearCrow_33 ho0.1 ?_
        refine g_iload (i := 4) dX8_hearCrow_36 rfl ?_
        refine g_aload_n (i := 1) dX8_hearCrow_38 rfl rfl ?_
        refine g_aload_n (i := 1) dX8_hearCrow_39 rfl rfl ?_
        refine gf_RX8_46 rfl dX8_hearCrow_40 ho1.1 ?_
        refine g_iload (i := 4) dX8_hearCrow_43 rfl ?_
        refine g_iald dX8_hearCrow_45 ho1.2.1 hv1 ?_
        refine g_aload_n (i := 0) dX8_hearCrow_46 rfl rfl ?_
        refine gf_RX8_9 rfl dX8_hearCrow_47 ho0.1 ?_
        refine g_iload (i := 4) dX8_hearCrow_50 rfl ?_
        refine g_iald dX8_hearCrow_52 ho0.2.1 hv1 ?_
        refine g_aload_n (i := 0) dX8_hearCrow_53 rfl rfl ?_
        refine gf_RX8_21 rfl dX8_hearCrow_54 ho0.1 ?_
        refine gc_RX8_49 rfl (Nat.le_of_ble_eq_true rfl) dX8_hearCrow_57 ho1.1 (Nat.le_of_ble_eq_true rfl) ?_
        refine Cl.mono h (fun r2 M2 h => ?_)
        refine g_iastP dX8_hearCrow_60 ho0.2.1 hv1 ?_
        refine g_nmM (fun M3 hM3 => ?_); replace h := h M3 hM3
        refine g_aload_n (i := 0) dX8_hearCrow_61 rfl rfl ?_
        refine gf_RX8_18 rfl dX8_hearCrow_62 ho0.1 ?_
        refine g_iload (i := 4) dX8_hearCrow_65 rfl ?_
        refine g_aload_n (i := 0) dX8_hearCrow_67 rfl rfl ?_
        refine gf_RX8_18 rfl dX8_hearCrow_68 ho0.1 ?_
        refine g_iload (i := 4) dX8_hearCrow_71 rfl ?_
        refine g_iald dX8_hearCrow_73 ho0.2.2.2 hv1 ?_
        refine g_iconst (v := (1 : Int32)) dX8_hearCrow_74 (by decide) ?_
        refine g_iadd dX8_hearCrow_75 ?_
        refine g_ldc dX8_hearCrow_76 wt_516 ?_
        refine gc_RX8_54 rfl dX8_hearCrow_78 (Nat.le_of_ble_eq_true rfl) (Nat.le_of_ble_eq_true rfl) ?_
        refine g_iastP dX8_hearCrow_81 ho0.2.2.2 hv1 ?_
        refine g_nmM (fun M4 hM4 => ?_); replace h := h M4 hM4
        refine g_iload_n (i := 3) dX8_hearCrow_82 rfl rfl ?_
        refine g_iconst (v := (1 : Int32)) dX8_hearCrow_83 (by decide) ?_
        refine g_iload (i := 4) dX8_hearCrow_84 rfl ?_
        refine g_ishl dX8_hearCrow_86 ?_
        refine g_ior dX8_hearCrow_87 ?_
        refine lv_nm (fun v5 hn5 => ?_) (x := (l3 ||| (jshl (1 : Int32) l4)))
        replace h := h v5 hn5
        refine g_istore_n (i := 3) (L' := [.ref o0, .ref o1, .int l2, .int v5, .int l4]) dX8_hearCrow_88 rfl (Nat.le_of_ble_eq_true rfl) rfl rfl ?_
        exact h
theorem bX8_hearCrow_89 {κ : gK} {M : MM} {Q : Int32 → MM → Prop} (o0 : Nat) (o1 : Nat) (ho0 : stO o0) (ho1 : twO o1) (l2 : Int32) (l3 : Int32) (l4 : Int32)
    (h : G κ mX8_hearCrow 5 [.ref o0, .ref o1, .int l2, .int l3, .int (l4 + 1)] [] M Q) :
    G κ mX8_hearCrow 89 [.ref o0, .ref o1, .int l2, .int l3, .int l4] [] M Q := by
  refine g_iinc (v := (l4 + 1)) (L' := [.ref o0, .ref o1, .int l2, .int l3, .int (l4 + 1)]) dX8_hearCrow_89 rfl rfl (Nat.le_of_ble_eq_true rfl) rfl rfl ?_
  refine g_goto (tgt := 5) dX8_hearCrow_92 rfl ?_
  exact h
theorem eX8_hearCrow {κ : gK} {M : MM} {Q : Int32 → MM → Prop} (o0 : Nat) (o1 : Nat) (l2 : Int32)
    (h : G κ mX8_hearCrow 0 [.ref o0, .ref o1, .int l2, .null, .null] [] M Q) : Cl κ mX8_hearCrow [.ref o0, .ref o1, .int l2] M Q := g_entry 2 pl_X8_hearCrow (Nat.le_of_ble_eq_true rfl) (L := [.ref o0, .ref o1, .int l2, .null, .null]) rfl (g_sub _ (sub_c (Or.inr rfl) (sub_c (Or.inr rfl) (sub_c (Or.inr rfl) (sub_c (Or.inr rfl) (sub_c (Or.inr rfl) sub_n))))) h)
theorem dX8_passDawn_0 : decode cX8_passDawn 0 = .ok (.aload_n 0, 1) := by decide +kernel
theorem dX8_passDawn_1 : decode cX8_passDawn 1 = .ok (.aload_n 1, 1) := by decide +kernel
theorem dX8_passDawn_2 : decode cX8_passDawn 2 = .ok (.aload_n 1, 1) := by decide +kernel
theorem dX8_passDawn_3 : decode cX8_passDawn 3 = .ok (.aload_n 0, 1) := by decide +kernel
theorem dX8_passDawn_4 : decode cX8_passDawn 4 = .ok (.getfield 21, 3) := by decide +kernel
theorem dX8_passDawn_7 : decode cX8_passDawn 7 = .ok (.invokevirtual 60, 3) := by decide +kernel
theorem dX8_passDawn_10 : decode cX8_passDawn 10 = .ok (.invokevirtual 64, 3) := by decide +kernel
theorem dX8_passDawn_13 : decode cX8_passDawn 13 = .ok (.pop, 1) := by decide +kernel
theorem dX8_passDawn_14 : decode cX8_passDawn 14 = .ok (.aload_n 0, 1) := by decide +kernel
theorem dX8_passDawn_15 : decode cX8_passDawn 15 = .ok (.dup, 1) := by decide +kernel
theorem dX8_passDawn_16 : decode cX8_passDawn 16 = .ok (.getfield 21, 3) := by decide +kernel
theorem dX8_passDawn_19 : decode cX8_passDawn 19 = .ok (.iconst 1, 1) := by decide +kernel
theorem dX8_passDawn_20 : decode cX8_passDawn 20 = .ok (.iadd, 1) := by decide +kernel
theorem dX8_passDawn_21 : decode cX8_passDawn 21 = .ok (.putfield 21, 3) := by decide +kernel
theorem dX8_passDawn_24 : decode cX8_passDawn 24 = .ok (.return_, 1) := by decide +kernel
theorem bX8_passDawn_0 {κ : gK} {M : MM} {Q : Int32 → MM → Prop} (o0 : Nat) (o1 : Nat) (ho0 : stO o0) (ho1 : twO o1)
    (h : Cl κ mX9_lightOf [.ref o1, .int (M o0 3)] M (fun r1 M1 => Cl κ mX8_hearCrow [.ref o0, .ref o1, .int r1] M1 (fun r2 M2 => ∀ M3 : MM, M3 = (pt M2 o0 3 ((M2 o0 3) + (1 : Int32))) → (Q 0 M3)))) :
    G κ mX8_passDawn 0 [.ref o0, .ref o1] [] M Q := by
  refine g_aload_n (i := 0) dX8_passDawn_0 rfl rfl ?_
  refine g_aload_n (i := 1) dX8_passDawn_1 rfl rfl ?_
  refine g_aload_n (i := 1) dX8_passDawn_2 rfl rfl ?_
  refine g_aload_n (i := 0) dX8_passDawn_3 rfl rfl ?_
  refine gf_RX8_21 rfl dX8_passDawn_4 ho0.1 ?_
  refine gc_RX8_60 rfl (Nat.le_of_ble_eq_true rfl) dX8_passDawn_7 ho1.1 (Nat.le_of_ble_eq_true rfl) ?_
  refine Cl.mono h (fun r1 M1 h => ?_)
  refine gc_RX8_64 rfl (Nat.le_of_ble_eq_true rfl) dX8_passDawn_10 ho0.1 (Nat.le_of_ble_eq_true rfl) ?_
  refine Cl.mono h (fun r2 M2 h => ?_)
  refine g_pop dX8_passDawn_13 rfl ?_
  refine g_aload_n (i := 0) dX8_passDawn_14 rfl rfl ?_
  refine g_dup dX8_passDawn_15 rfl ?_
  refine gf_RX8_21 rfl dX8_passDawn_16 ho0.1 ?_
  refine g_iconst (v := (1 : Int32)) dX8_passDawn_19 (by decide) ?_
  refine g_iadd dX8_passDawn_20 ?_
  refine gp_RX8_21 rfl dX8_passDawn_21 ho0.1 ?_
  refine g_nmM (fun M3 hM3 => ?_); replace h := h M3 hM3
  exact g_vret dX8_passDawn_24 rfl h
theorem eX8_passDawn {κ : gK} {M : MM} {Q : Int32 → MM → Prop} (o0 : Nat) (o1 : Nat)
    (h : G κ mX8_passDawn 0 [.ref o0, .ref o1] [] M Q) : Cl κ mX8_passDawn [.ref o0, .ref o1] M Q := g_entry 0 pl_X8_passDawn (Nat.le_of_ble_eq_true rfl) (L := [.ref o0, .ref o1]) rfl (g_sub _ (sub_c (Or.inr rfl) (sub_c (Or.inr rfl) sub_n)) h)
theorem dX8_whoIsOn_0 : decode cX8_whoIsOn 0 = .ok (.iconst 0, 1) := by decide +kernel
theorem dX8_whoIsOn_1 : decode cX8_whoIsOn 1 = .ok (.istore_n 2, 1) := by decide +kernel
theorem dX8_whoIsOn_2 : decode cX8_whoIsOn 2 = .ok (.iconst 0, 1) := by decide +kernel
theorem dX8_whoIsOn_3 : decode cX8_whoIsOn 3 = .ok (.istore_n 3, 1) := by decide +kernel
theorem dX8_whoIsOn_4 : decode cX8_whoIsOn 4 = .ok (.iload_n 3, 1) := by decide +kernel
theorem dX8_whoIsOn_5 : decode cX8_whoIsOn 5 = .ok (.bipush 8, 2) := by decide +kernel
theorem dX8_whoIsOn_7 : decode cX8_whoIsOn 7 = .ok (.if_icmp .ge 26, 3) := by decide +kernel
theorem dX8_whoIsOn_10 : decode cX8_whoIsOn 10 = .ok (.aload_n 0, 1) := by decide +kernel
theorem dX8_whoIsOn_11 : decode cX8_whoIsOn 11 = .ok (.getfield 9, 3) := by decide +kernel
theorem dX8_whoIsOn_14 : decode cX8_whoIsOn 14 = .ok (.iload_n 3, 1) := by decide +kernel
theorem dX8_whoIsOn_15 : decode cX8_whoIsOn 15 = .ok (.iaload, 1) := by decide +kernel
theorem dX8_whoIsOn_16 : decode cX8_whoIsOn 16 = .ok (.iload_n 1, 1) := by decide +kernel
theorem dX8_whoIsOn_17 : decode cX8_whoIsOn 17 = .ok (.iand, 1) := by decide +kernel
theorem dX8_whoIsOn_18 : decode cX8_whoIsOn 18 = .ok (.ifCond .eq 9, 3) := by decide +kernel
theorem dX8_whoIsOn_21 : decode cX8_whoIsOn 21 = .ok (.iload_n 2, 1) := by decide +kernel
theorem dX8_whoIsOn_22 : decode cX8_whoIsOn 22 = .ok (.iconst 1, 1) := by decide +kernel
theorem dX8_whoIsOn_23 : decode cX8_whoIsOn 23 = .ok (.iload_n 3, 1) := by decide +kernel
theorem dX8_whoIsOn_24 : decode cX8_whoIsOn 24 = .ok (.ishl, 1) := by decide +kernel
theorem dX8_whoIsOn_25 : decode cX8_whoIsOn 25 = .ok (.ior, 1) := by decide +kernel
theorem dX8_whoIsOn_26 : decode cX8_whoIsOn 26 = .ok (.istore_n 2, 1) := by decide +kernel
theorem dX8_whoIsOn_27 : decode cX8_whoIsOn 27 = .ok (.iinc 3 1, 3) := by decide +kernel
theorem dX8_whoIsOn_30 : decode cX8_whoIsOn 30 = .ok (.goto (-26), 3) := by decide +kernel
theorem dX8_whoIsOn_33 : decode cX8_whoIsOn 33 = .ok (.iload_n 2, 1) := by decide +kernel
theorem dX8_whoIsOn_34 : decode cX8_whoIsOn 34 = .ok (.ireturn, 1) := by decide +kernel
theorem bX8_whoIsOn_0 {κ : gK} {M : MM} {Q : Int32 → MM → Prop} (o0 : Nat) (ho0 : stO o0) (l1 : Int32)
    (h : G κ mX8_whoIsOn 4 [.ref o0, .int l1, .int (0 : Int32), .int (0 : Int32)] [] M Q) :
    G κ mX8_whoIsOn 0 [.ref o0, .int l1, .null, .null] [] M Q := by
  refine g_iconst (v := (0 : Int32)) dX8_whoIsOn_0 (by decide) ?_
  refine g_istore_n (i := 2) (L' := [.ref o0, .int l1, .int (0 : Int32), .null]) dX8_whoIsOn_1 rfl (Nat.le_of_ble_eq_true rfl) rfl rfl ?_
  refine g_iconst (v := (0 : Int32)) dX8_whoIsOn_2 (by decide) ?_
  refine g_istore_n (i := 3) (L' := [.ref o0, .int l1, .int (0 : Int32), .int (0 : Int32)]) dX8_whoIsOn_3 rfl (Nat.le_of_ble_eq_true rfl) rfl rfl ?_
  exact h
theorem bX8_whoIsOn_4 {κ : gK} {M : MM} {Q : Int32 → MM → Prop} (o0 : Nat) (ho0 : stO o0) (l1 : Int32) (l2 : Int32) (l3 : Int32)
    (h : (((8 : Int32) ≤ l3 → Q l2 M) ∧ (¬ (8 : Int32) ≤ l3 → (vp_in l3 8) ∧ (((((M (o0 + 1) (l3).toNatClampNeg) &&& l1) = 0 → G κ mX8_whoIsOn 27 [.ref o0, .int l1, .int l2, .int l3] [] M Q) ∧ (¬ ((M (o0 + 1) (l3).toNatClampNeg) &&& l1) = 0 → ∀ v1 : Int32, v1 = (l2 ||| (jshl (1 : Int32) l3)) → (G κ mX8_whoIsOn 27 [.ref o0, .int l1, .int v1, .int l3] [] M Q))))))) :
    G κ mX8_whoIsOn 4 [.ref o0, .int l1, .int l2, .int l3] [] M Q := by
  refine g_iload_n (i := 3) dX8_whoIsOn_4 rfl rfl ?_
  refine g_bipush (v := (8 : Int32)) dX8_whoIsOn_5 (by decide) ?_
  refine g_icmp_ge (tgt := 33) dX8_whoIsOn_7 rfl ⟨fun hc => ?_, fun hc => ?_⟩
  · replace h := h.1 hc
    refine g_iload_n (i := 2) dX8_whoIsOn_33 rfl rfl ?_
    exact g_iret dX8_whoIsOn_34 rfl h
  · replace h := h.2 hc
    refine g_aload_n (i := 0) dX8_whoIsOn_10 rfl rfl ?_
    refine gf_RX8_9 rfl dX8_whoIsOn_11 ho0.1 ?_
    refine g_iload_n (i := 3) dX8_whoIsOn_14 rfl rfl ?_
    have hv1 := h.1; replace h := h.2
    refine g_iald dX8_whoIsOn_15 ho0.2.1 hv1 ?_
    refine g_iload_n (i := 1) dX8_whoIsOn_16 rfl rfl ?_
    refine g_iand dX8_whoIsOn_17 ?_
    refine g_if_eq (tgt := 27) dX8_whoIsOn_18 rfl ⟨fun hc => ?_, fun hc => ?_⟩
    · replace h := h.1 hc
      exact h
    · replace h := h.2 hc
      refine g_iload_n (i := 2) dX8_whoIsOn_21 rfl rfl ?_
      refine g_iconst (v := (1 : Int32)) dX8_whoIsOn_22 (by decide) ?_
      refine g_iload_n (i := 3) dX8_whoIsOn_23 rfl rfl ?_
      refine g_ishl dX8_whoIsOn_24 ?_
      refine g_ior dX8_whoIsOn_25 ?_
      refine lv_nm (fun v1 hn1 => ?_) (x := (l2 ||| (jshl (1 : Int32) l3)))
      replace h := h v1 hn1
      refine g_istore_n (i := 2) (L' := [.ref o0, .int l1, .int v1, .int l3]) dX8_whoIsOn_26 rfl (Nat.le_of_ble_eq_true rfl) rfl rfl ?_
      exact h
theorem bX8_whoIsOn_27 {κ : gK} {M : MM} {Q : Int32 → MM → Prop} (o0 : Nat) (ho0 : stO o0) (l1 : Int32) (l2 : Int32) (l3 : Int32)
    (h : G κ mX8_whoIsOn 4 [.ref o0, .int l1, .int l2, .int (l3 + 1)] [] M Q) :
    G κ mX8_whoIsOn 27 [.ref o0, .int l1, .int l2, .int l3] [] M Q := by
  refine g_iinc (v := (l3 + 1)) (L' := [.ref o0, .int l1, .int l2, .int (l3 + 1)]) dX8_whoIsOn_27 rfl rfl (Nat.le_of_ble_eq_true rfl) rfl rfl ?_
  refine g_goto (tgt := 4) dX8_whoIsOn_30 rfl ?_
  exact h
theorem eX8_whoIsOn {κ : gK} {M : MM} {Q : Int32 → MM → Prop} (o0 : Nat) (l1 : Int32)
    (h : G κ mX8_whoIsOn 0 [.ref o0, .int l1, .null, .null] [] M Q) : Cl κ mX8_whoIsOn [.ref o0, .int l1] M Q := g_entry 2 pl_X8_whoIsOn (Nat.le_of_ble_eq_true rfl) (L := [.ref o0, .int l1, .null, .null]) rfl (g_sub _ (sub_c (Or.inr rfl) (sub_c (Or.inr rfl) (sub_c (Or.inr rfl) (sub_c (Or.inr rfl) sub_n)))) h)
theorem dX8_everybody_0 : decode cX8_everybody 0 = .ok (.aload_n 0, 1) := by decide +kernel
theorem dX8_everybody_1 : decode cX8_everybody 1 = .ok (.sipush 511, 3) := by decide +kernel
theorem dX8_everybody_4 : decode cX8_everybody 4 = .ok (.invokevirtual 68, 3) := by decide +kernel
theorem dX8_everybody_7 : decode cX8_everybody 7 = .ok (.ireturn, 1) := by decide +kernel
theorem bX8_everybody_0 {κ : gK} {M : MM} {Q : Int32 → MM → Prop} (o0 : Nat) (ho0 : stO o0)
    (h : Cl κ mX8_whoIsOn [.ref o0, .int (511 : Int32)] M (fun r1 M1 => Q r1 M1)) :
    G κ mX8_everybody 0 [.ref o0] [] M Q := by
  refine g_aload_n (i := 0) dX8_everybody_0 rfl rfl ?_
  refine g_sipush (v := (511 : Int32)) dX8_everybody_1 (by decide) ?_
  refine gc_RX8_68 rfl (Nat.le_of_ble_eq_true rfl) dX8_everybody_4 ho0.1 (Nat.le_of_ble_eq_true rfl) ?_
  refine Cl.mono h (fun r1 M1 h => ?_)
  exact g_iret dX8_everybody_7 rfl h
theorem eX8_everybody {κ : gK} {M : MM} {Q : Int32 → MM → Prop} (o0 : Nat)
    (h : G κ mX8_everybody 0 [.ref o0] [] M Q) : Cl κ mX8_everybody [.ref o0] M Q := g_entry 0 pl_X8_everybody (Nat.le_of_ble_eq_true rfl) (L := [.ref o0]) rfl (g_sub _ (sub_c (Or.inr rfl) sub_n) h)
theorem dX8_layersOf_0 : decode cX8_layersOf 0 = .ok (.iconst 0, 1) := by decide +kernel
theorem dX8_layersOf_1 : decode cX8_layersOf 1 = .ok (.istore_n 2, 1) := by decide +kernel
theorem dX8_layersOf_2 : decode cX8_layersOf 2 = .ok (.iconst 0, 1) := by decide +kernel
theorem dX8_layersOf_3 : decode cX8_layersOf 3 = .ok (.istore_n 3, 1) := by decide +kernel
theorem dX8_layersOf_4 : decode cX8_layersOf 4 = .ok (.iload_n 3, 1) := by decide +kernel
theorem dX8_layersOf_5 : decode cX8_layersOf 5 = .ok (.bipush 8, 2) := by decide +kernel
theorem dX8_layersOf_7 : decode cX8_layersOf 7 = .ok (.if_icmp .ge 26, 3) := by decide +kernel
theorem dX8_layersOf_10 : decode cX8_layersOf 10 = .ok (.iload_n 1, 1) := by decide +kernel
theorem dX8_layersOf_11 : decode cX8_layersOf 11 = .ok (.iconst 1, 1) := by decide +kernel
theorem dX8_layersOf_12 : decode cX8_layersOf 12 = .ok (.iload_n 3, 1) := by decide +kernel
theorem dX8_layersOf_13 : decode cX8_layersOf 13 = .ok (.ishl, 1) := by decide +kernel
theorem dX8_layersOf_14 : decode cX8_layersOf 14 = .ok (.iand, 1) := by decide +kernel
theorem dX8_layersOf_15 : decode cX8_layersOf 15 = .ok (.ifCond .eq 12, 3) := by decide +kernel
theorem dX8_layersOf_18 : decode cX8_layersOf 18 = .ok (.iload_n 2, 1) := by decide +kernel
theorem dX8_layersOf_19 : decode cX8_layersOf 19 = .ok (.aload_n 0, 1) := by decide +kernel
theorem dX8_layersOf_20 : decode cX8_layersOf 20 = .ok (.getfield 9, 3) := by decide +kernel
theorem dX8_layersOf_23 : decode cX8_layersOf 23 = .ok (.iload_n 3, 1) := by decide +kernel
theorem dX8_layersOf_24 : decode cX8_layersOf 24 = .ok (.iaload, 1) := by decide +kernel
theorem dX8_layersOf_25 : decode cX8_layersOf 25 = .ok (.ior, 1) := by decide +kernel
theorem dX8_layersOf_26 : decode cX8_layersOf 26 = .ok (.istore_n 2, 1) := by decide +kernel
theorem dX8_layersOf_27 : decode cX8_layersOf 27 = .ok (.iinc 3 1, 3) := by decide +kernel
theorem dX8_layersOf_30 : decode cX8_layersOf 30 = .ok (.goto (-26), 3) := by decide +kernel
theorem dX8_layersOf_33 : decode cX8_layersOf 33 = .ok (.iload_n 2, 1) := by decide +kernel
theorem dX8_layersOf_34 : decode cX8_layersOf 34 = .ok (.ireturn, 1) := by decide +kernel
theorem bX8_layersOf_0 {κ : gK} {M : MM} {Q : Int32 → MM → Prop} (o0 : Nat) (ho0 : stO o0) (l1 : Int32)
    (h : G κ mX8_layersOf 4 [.ref o0, .int l1, .int (0 : Int32), .int (0 : Int32)] [] M Q) :
    G κ mX8_layersOf 0 [.ref o0, .int l1, .null, .null] [] M Q := by
  refine g_iconst (v := (0 : Int32)) dX8_layersOf_0 (by decide) ?_
  refine g_istore_n (i := 2) (L' := [.ref o0, .int l1, .int (0 : Int32), .null]) dX8_layersOf_1 rfl (Nat.le_of_ble_eq_true rfl) rfl rfl ?_
  refine g_iconst (v := (0 : Int32)) dX8_layersOf_2 (by decide) ?_
  refine g_istore_n (i := 3) (L' := [.ref o0, .int l1, .int (0 : Int32), .int (0 : Int32)]) dX8_layersOf_3 rfl (Nat.le_of_ble_eq_true rfl) rfl rfl ?_
  exact h
theorem bX8_layersOf_4 {κ : gK} {M : MM} {Q : Int32 → MM → Prop} (o0 : Nat) (ho0 : stO o0) (l1 : Int32) (l2 : Int32) (l3 : Int32)
    (h : (((8 : Int32) ≤ l3 → Q l2 M) ∧ (¬ (8 : Int32) ≤ l3 → (((l1 &&& (jshl (1 : Int32) l3)) = 0 → G κ mX8_layersOf 27 [.ref o0, .int l1, .int l2, .int l3] [] M Q) ∧ (¬ (l1 &&& (jshl (1 : Int32) l3)) = 0 → (vp_in l3 8) ∧ (∀ v1 : Int32, v1 = (l2 ||| (M (o0 + 1) (l3).toNatClampNeg)) → (G κ mX8_layersOf 27 [.ref o0, .int l1, .int v1, .int l3] [] M Q))))))) :
    G κ mX8_layersOf 4 [.ref o0, .int l1, .int l2, .int l3] [] M Q := by
  refine g_iload_n (i := 3) dX8_layersOf_4 rfl rfl ?_
  refine g_bipush (v := (8 : Int32)) dX8_layersOf_5 (by decide) ?_
  refine g_icmp_ge (tgt := 33) dX8_layersOf_7 rfl ⟨fun hc => ?_, fun hc => ?_⟩
  · replace h := h.1 hc
    refine g_iload_n (i := 2) dX8_layersOf_33 rfl rfl ?_
    exact g_iret dX8_layersOf_34 rfl h
  · replace h := h.2 hc
    refine g_iload_n (i := 1) dX8_layersOf_10 rfl rfl ?_
    refine g_iconst (v := (1 : Int32)) dX8_layersOf_11 (by decide) ?_
    refine g_iload_n (i := 3) dX8_layersOf_12 rfl rfl ?_
    refine g_ishl dX8_layersOf_13 ?_
    refine g_iand dX8_layersOf_14 ?_
    refine g_if_eq (tgt := 27) dX8_layersOf_15 rfl ⟨fun hc => ?_, fun hc => ?_⟩
    · replace h := h.1 hc
      exact h
    · replace h := h.2 hc
      refine g_iload_n (i := 2) dX8_layersOf_18 rfl rfl ?_
      refine g_aload_n (i := 0) dX8_layersOf_19 rfl rfl ?_
      refine gf_RX8_9 rfl dX8_layersOf_20 ho0.1 ?_
      refine g_iload_n (i := 3) dX8_layersOf_23 rfl rfl ?_
      have hv1 := h.1; replace h := h.2
      refine g_iald dX8_layersOf_24 ho0.2.1 hv1 ?_
      refine g_ior dX8_layersOf_25 ?_
      refine lv_nm (fun v1 hn1 => ?_) (x := (l2 ||| (M (o0 + 1) (l3).toNatClampNeg)))
      replace h := h v1 hn1
      refine g_istore_n (i := 2) (L' := [.ref o0, .int l1, .int v1, .int l3]) dX8_layersOf_26 rfl (Nat.le_of_ble_eq_true rfl) rfl rfl ?_
      exact h
theorem bX8_layersOf_27 {κ : gK} {M : MM} {Q : Int32 → MM → Prop} (o0 : Nat) (ho0 : stO o0) (l1 : Int32) (l2 : Int32) (l3 : Int32)
    (h : G κ mX8_layersOf 4 [.ref o0, .int l1, .int l2, .int (l3 + 1)] [] M Q) :
    G κ mX8_layersOf 27 [.ref o0, .int l1, .int l2, .int l3] [] M Q := by
  refine g_iinc (v := (l3 + 1)) (L' := [.ref o0, .int l1, .int l2, .int (l3 + 1)]) dX8_layersOf_27 rfl rfl (Nat.le_of_ble_eq_true rfl) rfl rfl ?_
  refine g_goto (tgt := 4) dX8_layersOf_30 rfl ?_
  exact h
theorem eX8_layersOf {κ : gK} {M : MM} {Q : Int32 → MM → Prop} (o0 : Nat) (l1 : Int32)
    (h : G κ mX8_layersOf 0 [.ref o0, .int l1, .null, .null] [] M Q) : Cl κ mX8_layersOf [.ref o0, .int l1] M Q := g_entry 2 pl_X8_layersOf (Nat.le_of_ble_eq_true rfl) (L := [.ref o0, .int l1, .null, .null]) rfl (g_sub _ (sub_c (Or.inr rfl) (sub_c (Or.inr rfl) (sub_c (Or.inr rfl) (sub_c (Or.inr rfl) sub_n)))) h)
theorem dX8_areTogether_0 : decode cX8_areTogether 0 = .ok (.sipush 511, 3) := by decide +kernel
theorem dX8_areTogether_3 : decode cX8_areTogether 3 = .ok (.istore_n 2, 1) := by decide +kernel
theorem dX8_areTogether_4 : decode cX8_areTogether 4 = .ok (.iconst 0, 1) := by decide +kernel
theorem dX8_areTogether_5 : decode cX8_areTogether 5 = .ok (.istore_n 3, 1) := by decide +kernel
theorem dX8_areTogether_6 : decode cX8_areTogether 6 = .ok (.iload_n 3, 1) := by decide +kernel
theorem dX8_areTogether_7 : decode cX8_areTogether 7 = .ok (.bipush 8, 2) := by decide +kernel
theorem dX8_areTogether_9 : decode cX8_areTogether 9 = .ok (.if_icmp .ge 26, 3) := by decide +kernel
theorem dX8_areTogether_12 : decode cX8_areTogether 12 = .ok (.iload_n 1, 1) := by decide +kernel
theorem dX8_areTogether_13 : decode cX8_areTogether 13 = .ok (.iconst 1, 1) := by decide +kernel
theorem dX8_areTogether_14 : decode cX8_areTogether 14 = .ok (.iload_n 3, 1) := by decide +kernel
theorem dX8_areTogether_15 : decode cX8_areTogether 15 = .ok (.ishl, 1) := by decide +kernel
theorem dX8_areTogether_16 : decode cX8_areTogether 16 = .ok (.iand, 1) := by decide +kernel
theorem dX8_areTogether_17 : decode cX8_areTogether 17 = .ok (.ifCond .eq 12, 3) := by decide +kernel
theorem dX8_areTogether_20 : decode cX8_areTogether 20 = .ok (.iload_n 2, 1) := by decide +kernel
theorem dX8_areTogether_21 : decode cX8_areTogether 21 = .ok (.aload_n 0, 1) := by decide +kernel
theorem dX8_areTogether_22 : decode cX8_areTogether 22 = .ok (.getfield 9, 3) := by decide +kernel
theorem dX8_areTogether_25 : decode cX8_areTogether 25 = .ok (.iload_n 3, 1) := by decide +kernel
theorem dX8_areTogether_26 : decode cX8_areTogether 26 = .ok (.iaload, 1) := by decide +kernel
theorem dX8_areTogether_27 : decode cX8_areTogether 27 = .ok (.iand, 1) := by decide +kernel
theorem dX8_areTogether_28 : decode cX8_areTogether 28 = .ok (.istore_n 2, 1) := by decide +kernel
theorem dX8_areTogether_29 : decode cX8_areTogether 29 = .ok (.iinc 3 1, 3) := by decide +kernel
theorem dX8_areTogether_32 : decode cX8_areTogether 32 = .ok (.goto (-26), 3) := by decide +kernel
theorem dX8_areTogether_35 : decode cX8_areTogether 35 = .ok (.iload_n 2, 1) := by decide +kernel
theorem dX8_areTogether_36 : decode cX8_areTogether 36 = .ok (.ifCond .eq 7, 3) := by decide +kernel
theorem dX8_areTogether_39 : decode cX8_areTogether 39 = .ok (.iconst 1, 1) := by decide +kernel
theorem dX8_areTogether_40 : decode cX8_areTogether 40 = .ok (.goto 4, 3) := by decide +kernel
theorem dX8_areTogether_43 : decode cX8_areTogether 43 = .ok (.iconst 0, 1) := by decide +kernel
theorem dX8_areTogether_44 : decode cX8_areTogether 44 = .ok (.ireturn, 1) := by decide +kernel
theorem bX8_areTogether_0 {κ : gK} {M : MM} {Q : Int32 → MM → Prop} (o0 : Nat) (ho0 : stO o0) (l1 : Int32)
    (h : G κ mX8_areTogether 6 [.ref o0, .int l1, .int (511 : Int32), .int (0 : Int32)] [] M Q) :
    G κ mX8_areTogether 0 [.ref o0, .int l1, .null, .null] [] M Q := by
  refine g_sipush (v := (511 : Int32)) dX8_areTogether_0 (by decide) ?_
  refine g_istore_n (i := 2) (L' := [.ref o0, .int l1, .int (511 : Int32), .null]) dX8_areTogether_3 rfl (Nat.le_of_ble_eq_true rfl) rfl rfl ?_
  refine g_iconst (v := (0 : Int32)) dX8_areTogether_4 (by decide) ?_
  refine g_istore_n (i := 3) (L' := [.ref o0, .int l1, .int (511 : Int32), .int (0 : Int32)]) dX8_areTogether_5 rfl (Nat.le_of_ble_eq_true rfl) rfl rfl ?_
  exact h
theorem bX8_areTogether_6 {κ : gK} {M : MM} {Q : Int32 → MM → Prop} (o0 : Nat) (ho0 : stO o0) (l1 : Int32) (l2 : Int32) (l3 : Int32)
    (h : (((8 : Int32) ≤ l3 → ((l2 = 0 → G κ mX8_areTogether 44 [.null, .null, .null, .null] [.int (0 : Int32)] M Q) ∧ (¬ l2 = 0 → G κ mX8_areTogether 44 [.null, .null, .null, .null] [.int (1 : Int32)] M Q))) ∧ (¬ (8 : Int32) ≤ l3 → (((l1 &&& (jshl (1 : Int32) l3)) = 0 → G κ mX8_areTogether 29 [.ref o0, .int l1, .int l2, .int l3] [] M Q) ∧ (¬ (l1 &&& (jshl (1 : Int32) l3)) = 0 → (vp_in l3 8) ∧ (∀ v1 : Int32, v1 = (l2 &&& (M (o0 + 1) (l3).toNatClampNeg)) → (G κ mX8_areTogether 29 [.ref o0, .int l1, .int v1, .int l3] [] M Q))))))) :
    G κ mX8_areTogether 6 [.ref o0, .int l1, .int l2, .int l3] [] M Q := by
  refine g_iload_n (i := 3) dX8_areTogether_6 rfl rfl ?_
  refine g_bipush (v := (8 : Int32)) dX8_areTogether_7 (by decide) ?_
  refine g_icmp_ge (tgt := 35) dX8_areTogether_9 rfl ⟨fun hc => ?_, fun hc => ?_⟩
  · replace h := h.1 hc
    refine g_iload_n (i := 2) dX8_areTogether_35 rfl rfl ?_
    refine g_if_eq (tgt := 43) dX8_areTogether_36 rfl ⟨fun hc => ?_, fun hc => ?_⟩
    · replace h := h.1 hc
      refine g_iconst (v := (0 : Int32)) dX8_areTogether_43 (by decide) ?_
      exact g_sub _ (sub_c (Or.inl rfl) (sub_c (Or.inl rfl) (sub_c (Or.inl rfl) (sub_c (Or.inl rfl) sub_n)))) h
    · replace h := h.2 hc
      refine g_iconst (v := (1 : Int32)) dX8_areTogether_39 (by decide) ?_
      refine g_goto (tgt := 44) dX8_areTogether_40 rfl ?_
      exact g_sub _ (sub_c (Or.inl rfl) (sub_c (Or.inl rfl) (sub_c (Or.inl rfl) (sub_c (Or.inl rfl) sub_n)))) h
  · replace h := h.2 hc
    refine g_iload_n (i := 1) dX8_areTogether_12 rfl rfl ?_
    refine g_iconst (v := (1 : Int32)) dX8_areTogether_13 (by decide) ?_
    refine g_iload_n (i := 3) dX8_areTogether_14 rfl rfl ?_
    refine g_ishl dX8_areTogether_15 ?_
    refine g_iand dX8_areTogether_16 ?_
    refine g_if_eq (tgt := 29) dX8_areTogether_17 rfl ⟨fun hc => ?_, fun hc => ?_⟩
    · replace h := h.1 hc
      exact h
    · replace h := h.2 hc
      refine g_iload_n (i := 2) dX8_areTogether_20 rfl rfl ?_
      refine g_aload_n (i := 0) dX8_areTogether_21 rfl rfl ?_
      refine gf_RX8_9 rfl dX8_areTogether_22 ho0.1 ?_
      refine g_iload_n (i := 3) dX8_areTogether_25 rfl rfl ?_
      have hv1 := h.1; replace h := h.2
      refine g_iald dX8_areTogether_26 ho0.2.1 hv1 ?_
      refine g_iand dX8_areTogether_27 ?_
      refine lv_nm (fun v1 hn1 => ?_) (x := (l2 &&& (M (o0 + 1) (l3).toNatClampNeg)))
      replace h := h v1 hn1
      refine g_istore_n (i := 2) (L' := [.ref o0, .int l1, .int v1, .int l3]) dX8_areTogether_28 rfl (Nat.le_of_ble_eq_true rfl) rfl rfl ?_
      exact h
theorem bX8_areTogether_29 {κ : gK} {M : MM} {Q : Int32 → MM → Prop} (o0 : Nat) (ho0 : stO o0) (l1 : Int32) (l2 : Int32) (l3 : Int32)
    (h : G κ mX8_areTogether 6 [.ref o0, .int l1, .int l2, .int (l3 + 1)] [] M Q) :
    G κ mX8_areTogether 29 [.ref o0, .int l1, .int l2, .int l3] [] M Q := by
  refine g_iinc (v := (l3 + 1)) (L' := [.ref o0, .int l1, .int l2, .int (l3 + 1)]) dX8_areTogether_29 rfl rfl (Nat.le_of_ble_eq_true rfl) rfl rfl ?_
  refine g_goto (tgt := 6) dX8_areTogether_32 rfl ?_
  exact h
theorem bX8_areTogether_44 {κ : gK} {M : MM} {Q : Int32 → MM → Prop} (o0 : Nat) (ho0 : stO o0) (s0 : Int32)
    (h : (isB s0 ∧ Q s0 M)) :
    G κ mX8_areTogether 44 [.null, .null, .null, .null] [.int s0] M Q := by
  exact g_zret dX8_areTogether_44 rfl (isB_n h.1) h.2
theorem eX8_areTogether {κ : gK} {M : MM} {Q : Int32 → MM → Prop} (o0 : Nat) (l1 : Int32)
    (h : G κ mX8_areTogether 0 [.ref o0, .int l1, .null, .null] [] M Q) : Cl κ mX8_areTogether [.ref o0, .int l1] M Q := g_entry 2 pl_X8_areTogether (Nat.le_of_ble_eq_true rfl) (L := [.ref o0, .int l1, .null, .null]) rfl (g_sub _ (sub_c (Or.inr rfl) (sub_c (Or.inr rfl) (sub_c (Or.inr rfl) (sub_c (Or.inr rfl) sub_n)))) h)
theorem dX8_isWhere_0 : decode cX8_isWhere 0 = .ok (.iconst 0, 1) := by decide +kernel
theorem dX8_isWhere_1 : decode cX8_isWhere 1 = .ok (.istore_n 2, 1) := by decide +kernel
theorem dX8_isWhere_2 : decode cX8_isWhere 2 = .ok (.iload_n 2, 1) := by decide +kernel
theorem dX8_isWhere_3 : decode cX8_isWhere 3 = .ok (.bipush 8, 2) := by decide +kernel
theorem dX8_isWhere_5 : decode cX8_isWhere 5 = .ok (.if_icmp .ge 26, 3) := by decide +kernel
theorem dX8_isWhere_8 : decode cX8_isWhere 8 = .ok (.aload_n 0, 1) := by decide +kernel
theorem dX8_isWhere_9 : decode cX8_isWhere 9 = .ok (.getfield 9, 3) := by decide +kernel
theorem dX8_isWhere_12 : decode cX8_isWhere 12 = .ok (.iload_n 2, 1) := by decide +kernel
theorem dX8_isWhere_13 : decode cX8_isWhere 13 = .ok (.iaload, 1) := by decide +kernel
theorem dX8_isWhere_14 : decode cX8_isWhere 14 = .ok (.aload_n 1, 1) := by decide +kernel
theorem dX8_isWhere_15 : decode cX8_isWhere 15 = .ok (.getfield 9, 3) := by decide +kernel
theorem dX8_isWhere_18 : decode cX8_isWhere 18 = .ok (.iload_n 2, 1) := by decide +kernel
theorem dX8_isWhere_19 : decode cX8_isWhere 19 = .ok (.iaload, 1) := by decide +kernel
theorem dX8_isWhere_20 : decode cX8_isWhere 20 = .ok (.if_icmp .eq 5, 3) := by decide +kernel
theorem dX8_isWhere_23 : decode cX8_isWhere 23 = .ok (.iconst 0, 1) := by decide +kernel
theorem dX8_isWhere_24 : decode cX8_isWhere 24 = .ok (.ireturn, 1) := by decide +kernel
theorem dX8_isWhere_25 : decode cX8_isWhere 25 = .ok (.iinc 2 1, 3) := by decide +kernel
theorem dX8_isWhere_28 : decode cX8_isWhere 28 = .ok (.goto (-26), 3) := by decide +kernel
theorem dX8_isWhere_31 : decode cX8_isWhere 31 = .ok (.iconst 1, 1) := by decide +kernel
theorem dX8_isWhere_32 : decode cX8_isWhere 32 = .ok (.ireturn, 1) := by decide +kernel
theorem bX8_isWhere_0 {κ : gK} {M : MM} {Q : Int32 → MM → Prop} (o0 : Nat) (o1 : Nat) (ho0 : stO o0) (ho1 : stO o1)
    (h : G κ mX8_isWhere 2 [.ref o0, .ref o1, .int (0 : Int32)] [] M Q) :
    G κ mX8_isWhere 0 [.ref o0, .ref o1, .null] [] M Q := by
  refine g_iconst (v := (0 : Int32)) dX8_isWhere_0 (by decide) ?_
  refine g_istore_n (i := 2) (L' := [.ref o0, .ref o1, .int (0 : Int32)]) dX8_isWhere_1 rfl (Nat.le_of_ble_eq_true rfl) rfl rfl ?_
  exact h
theorem bX8_isWhere_2 {κ : gK} {M : MM} {Q : Int32 → MM → Prop} (o0 : Nat) (o1 : Nat) (ho0 : stO o0) (ho1 : stO o1) (l2 : Int32)
    (h : (((8 : Int32) ≤ l2 → Q (1 : Int32) M) ∧ (¬ (8 : Int32) ≤ l2 → (vp_in l2 8) ∧ ((((M (o0 + 1) (l2).toNatClampNeg) = (M (o1 + 1) (l2).toNatClampNeg) → G κ mX8_isWhere 2 [.ref o0, .ref o1, .int (l2 + 1)] [] M Q) ∧ (¬ (M (o0 + 1) (l2).toNatClampNeg) = (M (o1 + 1) (l2).toNatClampNeg) → Q (0 : Int32) M)))))) :
    G κ mX8_isWhere 2 [.ref o0, .ref o1, .int l2] [] M Q := by
  refine g_iload_n (i := 2) dX8_isWhere_2 rfl rfl ?_
  refine g_bipush (v := (8 : Int32)) dX8_isWhere_3 (by decide) ?_
  refine g_icmp_ge (tgt := 31) dX8_isWhere_5 rfl ⟨fun hc => ?_, fun hc => ?_⟩
  · replace h := h.1 hc
    refine g_iconst (v := (1 : Int32)) dX8_isWhere_31 (by decide) ?_
    exact g_zret dX8_isWhere_32 rfl rfl h
  · replace h := h.2 hc
    refine g_aload_n (i := 0) dX8_isWhere_8 rfl rfl ?_
    refine gf_RX8_9 rfl dX8_isWhere_9 ho0.1 ?_
    refine g_iload_n (i := 2) dX8_isWhere_12 rfl rfl ?_
    have hv1 := h.1; replace h := h.2
    refine g_iald dX8_isWhere_13 ho0.2.1 hv1 ?_
    refine g_aload_n (i := 1) dX8_isWhere_14 rfl rfl ?_
    refine gf_RX8_9 rfl dX8_isWhere_15 ho1.1 ?_
    refine g_iload_n (i := 2) dX8_isWhere_18 rfl rfl ?_
    refine g_iald dX8_isWhere_19 ho1.2.1 hv1 ?_
    refine g_icmp_eq (tgt := 25) dX8_isWhere_20 rfl ⟨fun hc => ?_, fun hc => ?_⟩
    · replace h := h.1 hc
      refine g_iinc (v := (l2 + 1)) (L' := [.ref o0, .ref o1, .int (l2 + 1)]) dX8_isWhere_25 rfl rfl (Nat.le_of_ble_eq_true rfl) rfl rfl ?_
      refine g_goto (tgt := 2) dX8_isWhere_28 rfl ?_
      exact h
    · replace h := h.2 hc
      refine g_iconst (v := (0 : Int32)) dX8_isWhere_23 (by decide) ?_
      exact g_zret dX8_isWhere_24 rfl rfl h
theorem eX8_isWhere {κ : gK} {M : MM} {Q : Int32 → MM → Prop} (o0 : Nat) (o1 : Nat)
    (h : G κ mX8_isWhere 0 [.ref o0, .ref o1, .null] [] M Q) : Cl κ mX8_isWhere [.ref o0, .ref o1] M Q := g_entry 1 pl_X8_isWhere (Nat.le_of_ble_eq_true rfl) (L := [.ref o0, .ref o1, .null]) rfl (g_sub _ (sub_c (Or.inr rfl) (sub_c (Or.inr rfl) (sub_c (Or.inr rfl) sub_n))) h)
theorem dX8_onSeveral_0 : decode cX8_onSeveral 0 = .ok (.iconst 0, 1) := by decide +kernel
theorem dX8_onSeveral_1 : decode cX8_onSeveral 1 = .ok (.istore_n 1, 1) := by decide +kernel
theorem dX8_onSeveral_2 : decode cX8_onSeveral 2 = .ok (.iconst 0, 1) := by decide +kernel
theorem dX8_onSeveral_3 : decode cX8_onSeveral 3 = .ok (.istore_n 2, 1) := by decide +kernel
theorem dX8_onSeveral_4 : decode cX8_onSeveral 4 = .ok (.iload_n 2, 1) := by decide +kernel
theorem dX8_onSeveral_5 : decode cX8_onSeveral 5 = .ok (.bipush 8, 2) := by decide +kernel
theorem dX8_onSeveral_7 : decode cX8_onSeveral 7 = .ok (.if_icmp .ge 28, 3) := by decide +kernel
theorem dX8_onSeveral_10 : decode cX8_onSeveral 10 = .ok (.aload_n 0, 1) := by decide +kernel
theorem dX8_onSeveral_11 : decode cX8_onSeveral 11 = .ok (.getfield 9, 3) := by decide +kernel
theorem dX8_onSeveral_14 : decode cX8_onSeveral 14 = .ok (.iload_n 2, 1) := by decide +kernel
theorem dX8_onSeveral_15 : decode cX8_onSeveral 15 = .ok (.iaload, 1) := by decide +kernel
theorem dX8_onSeveral_16 : decode cX8_onSeveral 16 = .ok (.invokestatic 71, 3) := by decide +kernel
theorem dX8_onSeveral_19 : decode cX8_onSeveral 19 = .ok (.iconst 1, 1) := by decide +kernel
theorem dX8_onSeveral_20 : decode cX8_onSeveral 20 = .ok (.if_icmp .le 9, 3) := by decide +kernel
theorem dX8_onSeveral_23 : decode cX8_onSeveral 23 = .ok (.iload_n 1, 1) := by decide +kernel
theorem dX8_onSeveral_24 : decode cX8_onSeveral 24 = .ok (.iconst 1, 1) := by decide +kernel
theorem dX8_onSeveral_25 : decode cX8_onSeveral 25 = .ok (.iload_n 2, 1) := by decide +kernel
theorem dX8_onSeveral_26 : decode cX8_onSeveral 26 = .ok (.ishl, 1) := by decide +kernel
theorem dX8_onSeveral_27 : decode cX8_onSeveral 27 = .ok (.ior, 1) := by decide +kernel
theorem dX8_onSeveral_28 : decode cX8_onSeveral 28 = .ok (.istore_n 1, 1) := by decide +kernel
theorem dX8_onSeveral_29 : decode cX8_onSeveral 29 = .ok (.iinc 2 1, 3) := by decide +kernel
theorem dX8_onSeveral_32 : decode cX8_onSeveral 32 = .ok (.goto (-28), 3) := by decide +kernel
theorem dX8_onSeveral_35 : decode cX8_onSeveral 35 = .ok (.iload_n 1, 1) := by decide +kernel
theorem dX8_onSeveral_36 : decode cX8_onSeveral 36 = .ok (.ireturn, 1) := by decide +kernel
theorem bX8_onSeveral_0 {κ : gK} {M : MM} {Q : Int32 → MM → Prop} (o0 : Nat) (ho0 : stO o0)
    (h : G κ mX8_onSeveral 4 [.ref o0, .int (0 : Int32), .int (0 : Int32)] [] M Q) :
    G κ mX8_onSeveral 0 [.ref o0, .null, .null] [] M Q := by
  refine g_iconst (v := (0 : Int32)) dX8_onSeveral_0 (by decide) ?_
  refine g_istore_n (i := 1) (L' := [.ref o0, .int (0 : Int32), .null]) dX8_onSeveral_1 rfl (Nat.le_of_ble_eq_true rfl) rfl rfl ?_
  refine g_iconst (v := (0 : Int32)) dX8_onSeveral_2 (by decide) ?_
  refine g_istore_n (i := 2) (L' := [.ref o0, .int (0 : Int32), .int (0 : Int32)]) dX8_onSeveral_3 rfl (Nat.le_of_ble_eq_true rfl) rfl rfl ?_
  exact h
theorem bX8_onSeveral_4 {κ : gK} {M : MM} {Q : Int32 → MM → Prop} (o0 : Nat) (ho0 : stO o0) (l1 : Int32) (l2 : Int32)
    (h : (((8 : Int32) ≤ l2 → Q l1 M) ∧ (¬ (8 : Int32) ≤ l2 → (vp_in l2 8) ∧ (Cl κ mJ6_bitCount_0f7a4 [.int (M (o0 + 1) (l2).toNatClampNeg)] M (fun r1 M1 => ((r1 ≤ (1 : Int32) → G κ mX8_onSeveral 29 [.ref o0, .int l1, .int l2] [] M1 Q) ∧ (¬ r1 ≤ (1 : Int32) → ∀ v2 : Int32, v2 = (l1 ||| (jshl (1 : Int32) l2)) → (G κ mX8_onSeveral 29 [.ref o0, .int v2, .int l2] [] M1 Q)))))))) :
    G κ mX8_onSeveral 4 [.ref o0, .int l1, .int l2] [] M Q := by
  refine g_iload_n (i := 2) dX8_onSeveral_4 rfl rfl ?_
  refine g_bipush (v := (8 : Int32)) dX8_onSeveral_5 (by decide) ?_
  refine g_icmp_ge (tgt := 35) dX8_onSeveral_7 rfl ⟨fun hc => ?_, fun hc => ?_⟩
  · replace h := h.1 hc
    refine g_iload_n (i := 1) dX8_onSeveral_35 rfl rfl ?_
    exact g_iret dX8_onSeveral_36 rfl h
  · replace h := h.2 hc
    refine g_aload_n (i := 0) dX8_onSeveral_10 rfl rfl ?_
    refine gf_RX8_9 rfl dX8_onSeveral_11 ho0.1 ?_
    refine g_iload_n (i := 2) dX8_onSeveral_14 rfl rfl ?_
    have hv1 := h.1; replace h := h.2
    refine g_iald dX8_onSeveral_15 ho0.2.1 hv1 ?_
    refine gc_RX8_71 rfl (Nat.le_of_ble_eq_true rfl) dX8_onSeveral_16 (Nat.le_of_ble_eq_true rfl) ?_
    refine Cl.mono h (fun r1 M1 h => ?_)
    refine g_iconst (v := (1 : Int32)) dX8_onSeveral_19 (by decide) ?_
    refine g_icmp_le (tgt := 29) dX8_onSeveral_20 rfl ⟨fun hc => ?_, fun hc => ?_⟩
    · replace h := h.1 hc
      exact h
    · replace h := h.2 hc
      refine g_iload_n (i := 1) dX8_onSeveral_23 rfl rfl ?_
      refine g_iconst (v := (1 : Int32)) dX8_onSeveral_24 (by decide) ?_
      refine g_iload_n (i := 2) dX8_onSeveral_25 rfl rfl ?_
      refine g_ishl dX8_onSeveral_26 ?_
      refine g_ior dX8_onSeveral_27 ?_
      refine lv_nm (fun v2 hn2 => ?_) (x := (l1 ||| (jshl (1 : Int32) l2)))
      replace h := h v2 hn2
      refine g_istore_n (i := 1) (L' := [.ref o0, .int v2, .int l2]) dX8_onSeveral_28 rfl (Nat.le_of_ble_eq_true rfl) rfl rfl ?_
      exact h
theorem bX8_onSeveral_29 {κ : gK} {M : MM} {Q : Int32 → MM → Prop} (o0 : Nat) (ho0 : stO o0) (l1 : Int32) (l2 : Int32)
    (h : G κ mX8_onSeveral 4 [.ref o0, .int l1, .int (l2 + 1)] [] M Q) :
    G κ mX8_onSeveral 29 [.ref o0, .int l1, .int l2] [] M Q := by
  refine g_iinc (v := (l2 + 1)) (L' := [.ref o0, .int l1, .int (l2 + 1)]) dX8_onSeveral_29 rfl rfl (Nat.le_of_ble_eq_true rfl) rfl rfl ?_
  refine g_goto (tgt := 4) dX8_onSeveral_32 rfl ?_
  exact h
theorem eX8_onSeveral {κ : gK} {M : MM} {Q : Int32 → MM → Prop} (o0 : Nat)
    (h : G κ mX8_onSeveral 0 [.ref o0, .null, .null] [] M Q) : Cl κ mX8_onSeveral [.ref o0] M Q := g_entry 2 pl_X8_onSeveral (Nat.le_of_ble_eq_true rfl) (L := [.ref o0, .null, .null]) rfl (g_sub _ (sub_c (Or.inr rfl) (sub_c (Or.inr rfl) (sub_c (Or.inr rfl) sub_n))) h)
theorem dX8_cover_0 : decode cX8_cover 0 = .ok (.aload_n 0, 1) := by decide +kernel
theorem dX8_cover_1 : decode cX8_cover 1 = .ok (.invokevirtual 76, 3) := by decide +kernel
theorem dX8_cover_4 : decode cX8_cover 4 = .ok (.istore_n 1, 1) := by decide +kernel
theorem dX8_cover_5 : decode cX8_cover 5 = .ok (.aload_n 0, 1) := by decide +kernel
theorem dX8_cover_6 : decode cX8_cover 6 = .ok (.iload_n 1, 1) := by decide +kernel
theorem dX8_cover_7 : decode cX8_cover 7 = .ok (.invokevirtual 80, 3) := by decide +kernel
theorem dX8_cover_10 : decode cX8_cover 10 = .ok (.istore_n 2, 1) := by decide +kernel
theorem dX8_cover_11 : decode cX8_cover 11 = .ok (.iload_n 1, 1) := by decide +kernel
theorem dX8_cover_12 : decode cX8_cover 12 = .ok (.istore_n 3, 1) := by decide +kernel
theorem dX8_cover_13 : decode cX8_cover 13 = .ok (.iconst 0, 1) := by decide +kernel
theorem dX8_cover_14 : decode cX8_cover 14 = .ok (.istore 4, 2) := by decide +kernel
theorem dX8_cover_16 : decode cX8_cover 16 = .ok (.iload 4, 2) := by decide +kernel
theorem dX8_cover_18 : decode cX8_cover 18 = .ok (.iload_n 1, 1) := by decide +kernel
theorem dX8_cover_19 : decode cX8_cover 19 = .ok (.if_icmp .ge 34, 3) := by decide +kernel
theorem dX8_cover_22 : decode cX8_cover 22 = .ok (.iload 4, 2) := by decide +kernel
theorem dX8_cover_24 : decode cX8_cover 24 = .ok (.invokestatic 71, 3) := by decide +kernel
theorem dX8_cover_27 : decode cX8_cover 27 = .ok (.iload_n 3, 1) := by decide +kernel
theorem dX8_cover_28 : decode cX8_cover 28 = .ok (.invokestatic 71, 3) := by decide +kernel
theorem dX8_cover_31 : decode cX8_cover 31 = .ok (.if_icmp .ge 16, 3) := by decide +kernel
theorem dX8_cover_34 : decode cX8_cover 34 = .ok (.aload_n 0, 1) := by decide +kernel
theorem dX8_cover_35 : decode cX8_cover 35 = .ok (.iload 4, 2) := by decide +kernel
theorem dX8_cover_37 : decode cX8_cover 37 = .ok (.invokevirtual 80, 3) := by decide +kernel
theorem dX8_cover_40 : decode cX8_cover 40 = .ok (.iload_n 2, 1) := by decide +kernel
theorem dX8_cover_41 : decode cX8_cover 41 = .ok (.if_icmp .ne 6, 3) := by decide +kernel
theorem dX8_cover_44 : decode cX8_cover 44 = .ok (.iload 4, 2) := by decide +kernel
theorem dX8_cover_46 : decode cX8_cover 46 = .ok (.istore_n 3, 1) := by decide +kernel
theorem dX8_cover_47 : decode cX8_cover 47 = .ok (.iinc 4 1, 3) := by decide +kernel
theorem dX8_cover_50 : decode cX8_cover 50 = .ok (.goto (-34), 3) := by decide +kernel
theorem dX8_cover_53 : decode cX8_cover 53 = .ok (.iload_n 3, 1) := by decide +kernel
theorem dX8_cover_54 : decode cX8_cover 54 = .ok (.ireturn, 1) := by decide +kernel
theorem bX8_cover_0 {κ : gK} {M : MM} {Q : Int32 → MM → Prop} (o0 : Nat) (ho0 : stO o0)
    (h : Cl κ mX8_everybody [.ref o0] M (fun r1 M1 => Cl κ mX8_layersOf [.ref o0, .int r1] M1 (fun r2 M2 => G κ mX8_cover 16 [.ref o0, .int r1, .int r2, .int r1, .int (0 : Int32)] [] M2 Q))) :
    G κ mX8_cover 0 [.ref o0, .null, .null, .null, .null] [] M Q := by
  refine g_aload_n (i := 0) dX8_cover_0 rfl rfl ?_
  refine gc_RX8_76 rfl (Nat.le_of_ble_eq_true rfl) dX8_cover_1 ho0.1 (Nat.le_of_ble_eq_true rfl) ?_
  refine Cl.mono h (fun r1 M1 h => ?_)
  refine g_istore_n (i := 1) (L' := [.ref o0, .int r1, .null, .null, .null]) dX8_cover_4 rfl (Nat.le_of_ble_eq_true rfl) rfl rfl ?_
  refine g_aload_n (i := 0) dX8_cover_5 rfl rfl ?_
  refine g_iload_n (i := 1) dX8_cover_6 rfl rfl ?_
  refine gc_RX8_80 rfl (Nat.le_of_ble_eq_true rfl) dX8_cover_7 ho0.1 (Nat.le_of_ble_eq_true rfl) ?_
  refine Cl.mono h (fun r2 M2 h => ?_)
  refine g_istore_n (i := 2) (L' := [.ref o0, .int r1, .int r2, .null, .null]) dX8_cover_10 rfl (Nat.le_of_ble_eq_true rfl) rfl rfl ?_
  refine g_iload_n (i := 1) dX8_cover_11 rfl rfl ?_
  refine g_istore_n (i := 3) (L' := [.ref o0, .int r1, .int r2, .int r1, .null]) dX8_cover_12 rfl (Nat.le_of_ble_eq_true rfl) rfl rfl ?_
  refine g_iconst (v := (0 : Int32)) dX8_cover_13 (by decide) ?_
  refine g_istore (i := 4) (L' := [.ref o0, .int r1, .int r2, .int r1, .int (0 : Int32)]) dX8_cover_14 (Nat.le_of_ble_eq_true rfl) rfl rfl ?_
  exact h
theorem bX8_cover_16 {κ : gK} {M : MM} {Q : Int32 → MM → Prop} (o0 : Nat) (ho0 : stO o0) (l1 : Int32) (l2 : Int32) (l3 : Int32) (l4 : Int32)
    (h : ((l1 ≤ l4 → Q l3 M) ∧ (¬ l1 ≤ l4 → Cl κ mJ6_bitCount_0f7a4 [.int l4] M (fun r1 M1 => Cl κ mJ6_bitCount_0f7a4 [.int l3] M1 (fun r2 M2 => ((r2 ≤ r1 → G κ mX8_cover 47 [.ref o0, .int l1, .int l2, .int l3, .int l4] [] M2 Q) ∧ (¬ r2 ≤ r1 → Cl κ mX8_layersOf [.ref o0, .int l4] M2 (fun r3 M3 => ((r3 = l2 → G κ mX8_cover 47 [.ref o0, .int l1, .int l2, .int l4, .int l4] [] M3 Q) ∧ (¬ r3 = l2 → G κ mX8_cover 47 [.ref o0, .int l1, .int l2, .int l3, .int l4] [] M3 Q)))))))))) :
    G κ mX8_cover 16 [.ref o0, .int l1, .int l2, .int l3, .int l4] [] M Q := by
  refine g_iload (i := 4) dX8_cover_16 rfl ?_
  refine g_iload_n (i := 1) dX8_cover_18 rfl rfl ?_
  refine g_icmp_ge (tgt := 53) dX8_cover_19 rfl ⟨fun hc => ?_, fun hc => ?_⟩
  · replace h := h.1 hc
    refine g_iload_n (i := 3) dX8_cover_53 rfl rfl ?_
    exact g_iret dX8_cover_54 rfl h
  · replace h := h.2 hc
    refine g_iload (i := 4) dX8_cover_22 rfl ?_
    refine gc_RX8_71 rfl (Nat.le_of_ble_eq_true rfl) dX8_cover_24 (Nat.le_of_ble_eq_true rfl) ?_
    refine Cl.mono h (fun r1 M1 h => ?_)
    refine g_iload_n (i := 3) dX8_cover_27 rfl rfl ?_
    refine gc_RX8_71 rfl (Nat.le_of_ble_eq_true rfl) dX8_cover_28 (Nat.le_of_ble_eq_true rfl) ?_
    refine Cl.mono h (fun r2 M2 h => ?_)
    refine g_icmp_ge (tgt := 47) dX8_cover_31 rfl ⟨fun hc => ?_, fun hc => ?_⟩
    · replace h := h.1 hc
      exact h
    · replace h := h.2 hc
      refine g_aload_n (i := 0) dX8_cover_34 rfl rfl ?_
      refine g_iload (i := 4) dX8_cover_35 rfl ?_
      refine gc_RX8_80 rfl (Nat.le_of_ble_eq_true rfl) dX8_cover_37 ho0.1 (Nat.le_of_ble_eq_true rfl) ?_
      refine Cl.mono h (fun r3 M3 h => ?_)
      refine g_iload_n (i := 2) dX8_cover_40 rfl rfl ?_
      refine g_icmp_ne (tgt := 47) dX8_cover_41 rfl ⟨fun hc => ?_, fun hc => ?_⟩
      · replace h := h.1 hc
        refine g_iload (i := 4) dX8_cover_44 rfl ?_
        refine g_istore_n (i := 3) (L' := [.ref o0, .int l1, .int l2, .int l4, .int l4]) dX8_cover_46 rfl (Nat.le_of_ble_eq_true rfl) rfl rfl ?_
        exact h
      · replace h := h.2 hc
        exact h
theorem bX8_cover_47 {κ : gK} {M : MM} {Q : Int32 → MM → Prop} (o0 : Nat) (ho0 : stO o0) (l1 : Int32) (l2 : Int32) (l3 : Int32) (l4 : Int32)
    (h : G κ mX8_cover 16 [.ref o0, .int l1, .int l2, .int l3, .int (l4 + 1)] [] M Q) :
    G κ mX8_cover 47 [.ref o0, .int l1, .int l2, .int l3, .int l4] [] M Q := by
  refine g_iinc (v := (l4 + 1)) (L' := [.ref o0, .int l1, .int l2, .int l3, .int (l4 + 1)]) dX8_cover_47 rfl rfl (Nat.le_of_ble_eq_true rfl) rfl rfl ?_
  refine g_goto (tgt := 16) dX8_cover_50 rfl ?_
  exact h
theorem eX8_cover {κ : gK} {M : MM} {Q : Int32 → MM → Prop} (o0 : Nat)
    (h : G κ mX8_cover 0 [.ref o0, .null, .null, .null, .null] [] M Q) : Cl κ mX8_cover [.ref o0] M Q := g_entry 4 pl_X8_cover (Nat.le_of_ble_eq_true rfl) (L := [.ref o0, .null, .null, .null, .null]) rfl (g_sub _ (sub_c (Or.inr rfl) (sub_c (Or.inr rfl) (sub_c (Or.inr rfl) (sub_c (Or.inr rfl) (sub_c (Or.inr rfl) sub_n))))) h)
theorem dX8_fullest_0 : decode cX8_fullest 0 = .ok (.iconst (-1), 1) := by decide +kernel
theorem dX8_fullest_1 : decode cX8_fullest 1 = .ok (.istore_n 1, 1) := by decide +kernel
theorem dX8_fullest_2 : decode cX8_fullest 2 = .ok (.iconst 0, 1) := by decide +kernel
theorem dX8_fullest_3 : decode cX8_fullest 3 = .ok (.istore_n 2, 1) := by decide +kernel
theorem dX8_fullest_4 : decode cX8_fullest 4 = .ok (.iconst 0, 1) := by decide +kernel
theorem dX8_fullest_5 : decode cX8_fullest 5 = .ok (.istore_n 3, 1) := by decide +kernel
theorem dX8_fullest_6 : decode cX8_fullest 6 = .ok (.iload_n 3, 1) := by decide +kernel
theorem dX8_fullest_7 : decode cX8_fullest 7 = .ok (.bipush 9, 2) := by decide +kernel
theorem dX8_fullest_9 : decode cX8_fullest 9 = .ok (.if_icmp .ge 32, 3) := by decide +kernel
theorem dX8_fullest_12 : decode cX8_fullest 12 = .ok (.aload_n 0, 1) := by decide +kernel
theorem dX8_fullest_13 : decode cX8_fullest 13 = .ok (.iconst 1, 1) := by decide +kernel
theorem dX8_fullest_14 : decode cX8_fullest 14 = .ok (.iload_n 3, 1) := by decide +kernel
theorem dX8_fullest_15 : decode cX8_fullest 15 = .ok (.ishl, 1) := by decide +kernel
theorem dX8_fullest_16 : decode cX8_fullest 16 = .ok (.invokevirtual 68, 3) := by decide +kernel
theorem dX8_fullest_19 : decode cX8_fullest 19 = .ok (.invokestatic 71, 3) := by decide +kernel
theorem dX8_fullest_22 : decode cX8_fullest 22 = .ok (.istore 4, 2) := by decide +kernel
theorem dX8_fullest_24 : decode cX8_fullest 24 = .ok (.iload 4, 2) := by decide +kernel
theorem dX8_fullest_26 : decode cX8_fullest 26 = .ok (.iload_n 2, 1) := by decide +kernel
theorem dX8_fullest_27 : decode cX8_fullest 27 = .ok (.if_icmp .le 8, 3) := by decide +kernel
theorem dX8_fullest_30 : decode cX8_fullest 30 = .ok (.iload 4, 2) := by decide +kernel
theorem dX8_fullest_32 : decode cX8_fullest 32 = .ok (.istore_n 2, 1) := by decide +kernel
theorem dX8_fullest_33 : decode cX8_fullest 33 = .ok (.iload_n 3, 1) := by decide +kernel
theorem dX8_fullest_34 : decode cX8_fullest 34 = .ok (.istore_n 1, 1) := by decide +kernel
theorem dX8_fullest_35 : decode cX8_fullest 35 = .ok (.iinc 3 1, 3) := by decide +kernel
theorem dX8_fullest_38 : decode cX8_fullest 38 = .ok (.goto (-32), 3) := by decide +kernel
theorem dX8_fullest_41 : decode cX8_fullest 41 = .ok (.iload_n 1, 1) := by decide +kernel
theorem dX8_fullest_42 : decode cX8_fullest 42 = .ok (.ireturn, 1) := by decide +kernel
theorem bX8_fullest_0 {κ : gK} {M : MM} {Q : Int32 → MM → Prop} (o0 : Nat) (ho0 : stO o0)
    (h : G κ mX8_fullest 6 [.ref o0, .int (-1 : Int32), .int (0 : Int32), .int (0 : Int32), .null] [] M Q) :
    G κ mX8_fullest 0 [.ref o0, .null, .null, .null, .null] [] M Q := by
  refine g_iconst (v := (-1 : Int32)) dX8_fullest_0 (by decide) ?_
  refine g_istore_n (i := 1) (L' := [.ref o0, .int (-1 : Int32), .null, .null, .null]) dX8_fullest_1 rfl (Nat.le_of_ble_eq_true rfl) rfl rfl ?_
  refine g_iconst (v := (0 : Int32)) dX8_fullest_2 (by decide) ?_
  refine g_istore_n (i := 2) (L' := [.ref o0, .int (-1 : Int32), .int (0 : Int32), .null, .null]) dX8_fullest_3 rfl (Nat.le_of_ble_eq_true rfl) rfl rfl ?_
  refine g_iconst (v := (0 : Int32)) dX8_fullest_4 (by decide) ?_
  refine g_istore_n (i := 3) (L' := [.ref o0, .int (-1 : Int32), .int (0 : Int32), .int (0 : Int32), .null]) dX8_fullest_5 rfl (Nat.le_of_ble_eq_true rfl) rfl rfl ?_
  exact h
theorem bX8_fullest_6 {κ : gK} {M : MM} {Q : Int32 → MM → Prop} (o0 : Nat) (ho0 : stO o0) (l1 : Int32) (l2 : Int32) (l3 : Int32)
    (h : (((9 : Int32) ≤ l3 → Q l1 M) ∧ (¬ (9 : Int32) ≤ l3 → Cl κ mX8_whoIsOn [.ref o0, .int (jshl (1 : Int32) l3)] M (fun r1 M1 => Cl κ mJ6_bitCount_0f7a4 [.int r1] M1 (fun r2 M2 => ((r2 ≤ l2 → G κ mX8_fullest 35 [.ref o0, .int l1, .int l2, .int l3, .null] [] M2 Q) ∧ (¬ r2 ≤ l2 → G κ mX8_fullest 35 [.ref o0, .int l3, .int r2, .int l3, .null] [] M2 Q))))))) :
    G κ mX8_fullest 6 [.ref o0, .int l1, .int l2, .int l3, .null] [] M Q := by
  refine g_iload_n (i := 3) dX8_fullest_6 rfl rfl ?_
  refine g_bipush (v := (9 : Int32)) dX8_fullest_7 (by decide) ?_
  refine g_icmp_ge (tgt := 41) dX8_fullest_9 rfl ⟨fun hc => ?_, fun hc => ?_⟩
  · replace h := h.1 hc
    refine g_iload_n (i := 1) dX8_fullest_41 rfl rfl ?_
    exact g_iret dX8_fullest_42 rfl h
  · replace h := h.2 hc
    refine g_aload_n (i := 0) dX8_fullest_12 rfl rfl ?_
    refine g_iconst (v := (1 : Int32)) dX8_fullest_13 (by decide) ?_
    refine g_iload_n (i := 3) dX8_fullest_14 rfl rfl ?_
    refine g_ishl dX8_fullest_15 ?_
    refine gc_RX8_68 rfl (Nat.le_of_ble_eq_true rfl) dX8_fullest_16 ho0.1 (Nat.le_of_ble_eq_true rfl) ?_
    refine Cl.mono h (fun r1 M1 h => ?_)
    refine gc_RX8_71 rfl (Nat.le_of_ble_eq_true rfl) dX8_fullest_19 (Nat.le_of_ble_eq_true rfl) ?_
    refine Cl.mono h (fun r2 M2 h => ?_)
    refine g_istore (i := 4) (L' := [.ref o0, .int l1, .int l2, .int l3, .int r2]) dX8_fullest_22 (Nat.le_of_ble_eq_true rfl) rfl rfl ?_
    refine g_iload (i := 4) dX8_fullest_24 rfl ?_
    refine g_iload_n (i := 2) dX8_fullest_26 rfl rfl ?_
    refine g_icmp_le (tgt := 35) dX8_fullest_27 rfl ⟨fun hc => ?_, fun hc => ?_⟩
    · replace h := h.1 hc
      exact g_sub _ (sub_c (Or.inr rfl) (sub_c (Or.inr rfl) (sub_c (Or.inr rfl) (sub_c (Or.inr rfl) (sub_c (Or.inl rfl) sub_n))))) h
    · replace h := h.2 hc
      refine g_iload (i := 4) dX8_fullest_30 rfl ?_
      refine g_istore_n (i := 2) (L' := [.ref o0, .int l1, .int r2, .int l3, .int r2]) dX8_fullest_32 rfl (Nat.le_of_ble_eq_true rfl) rfl rfl ?_
      refine g_iload_n (i := 3) dX8_fullest_33 rfl rfl ?_
      refine g_istore_n (i := 1) (L' := [.ref o0, .int l3, .int r2, .int l3, .int r2]) dX8_fullest_34 rfl (Nat.le_of_ble_eq_true rfl) rfl rfl ?_
      exact g_sub _ (sub_c (Or.inr rfl) (sub_c (Or.inr rfl) (sub_c (Or.inr rfl) (sub_c (Or.inr rfl) (sub_c (Or.inl rfl) sub_n))))) h
theorem bX8_fullest_35 {κ : gK} {M : MM} {Q : Int32 → MM → Prop} (o0 : Nat) (ho0 : stO o0) (l1 : Int32) (l2 : Int32) (l3 : Int32)
    (h : G κ mX8_fullest 6 [.ref o0, .int l1, .int l2, .int (l3 + 1), .null] [] M Q) :
    G κ mX8_fullest 35 [.ref o0, .int l1, .int l2, .int l3, .null] [] M Q := by
  refine g_iinc (v := (l3 + 1)) (L' := [.ref o0, .int l1, .int l2, .int (l3 + 1), .null]) dX8_fullest_35 rfl rfl (Nat.le_of_ble_eq_true rfl) rfl rfl ?_
  refine g_goto (tgt := 6) dX8_fullest_38 rfl ?_
  exact h
theorem eX8_fullest {κ : gK} {M : MM} {Q : Int32 → MM → Prop} (o0 : Nat)
    (h : G κ mX8_fullest 0 [.ref o0, .null, .null, .null, .null] [] M Q) : Cl κ mX8_fullest [.ref o0] M Q := g_entry 4 pl_X8_fullest (Nat.le_of_ble_eq_true rfl) (L := [.ref o0, .null, .null, .null, .null]) rfl (g_sub _ (sub_c (Or.inr rfl) (sub_c (Or.inr rfl) (sub_c (Or.inr rfl) (sub_c (Or.inr rfl) (sub_c (Or.inr rfl) sub_n))))) h)
