theorem dX9_clear_0 : decode cX9_clear 0 = .ok (.aload_n 0, 1) := by decide +kernel
theorem dX9_clear_1 : decode cX9_clear 1 = .ok (.iconst 0, 1) := by decide +kernel
theorem dX9_clear_2 : decode cX9_clear 2 = .ok (.putfield 24, 3) := by decide +kernel
theorem dX9_clear_5 : decode cX9_clear 5 = .ok (.aload_n 0, 1) := by decide +kernel
theorem dX9_clear_6 : decode cX9_clear 6 = .ok (.iconst 0, 1) := by decide +kernel
theorem dX9_clear_7 : decode cX9_clear 7 = .ok (.putfield 28, 3) := by decide +kernel
theorem dX9_clear_10 : decode cX9_clear 10 = .ok (.aload_n 0, 1) := by decide +kernel
theorem dX9_clear_11 : decode cX9_clear 11 = .ok (.iconst 0, 1) := by decide +kernel
theorem dX9_clear_12 : decode cX9_clear 12 = .ok (.putfield 31, 3) := by decide +kernel
theorem dX9_clear_15 : decode cX9_clear 15 = .ok (.aload_n 0, 1) := by decide +kernel
theorem dX9_clear_16 : decode cX9_clear 16 = .ok (.iconst 0, 1) := by decide +kernel
theorem dX9_clear_17 : decode cX9_clear 17 = .ok (.putfield 34, 3) := by decide +kernel
theorem dX9_clear_20 : decode cX9_clear 20 = .ok (.return_, 1) := by decide +kernel
theorem bX9_clear_0 {κ : gK} {M : MM} {Q : Int32 → MM → Prop} (o0 : Nat) (ho0 : twO o0)
    (h : ∀ M1 : MM, M1 = (pt M o0 4 (0 : Int32)) → (∀ M2 : MM, M2 = (pt M1 o0 5 (0 : Int32)) → (∀ M3 : MM, M3 = (pt M2 o0 6 (0 : Int32)) → (∀ M4 : MM, M4 = (pt M3 o0 7 (0 : Int32)) → (Q 0 M4))))) :
    G κ mX9_clear 0 [.ref o0] [] M Q := by
  refine g_aload_n (i := 0) dX9_clear_0 rfl rfl ?_
  refine g_iconst (v := (0 : Int32)) dX9_clear_1 (by decide) ?_
  refine gp_RX9_24 rfl dX9_clear_2 ho0.1 ?_
  refine g_nmM (fun M1 hM1 => ?_); replace h := h M1 hM1
  refine g_aload_n (i := 0) dX9_clear_5 rfl rfl ?_
  refine g_iconst (v := (0 : Int32)) dX9_clear_6 (by decide) ?_
  refine gp_RX9_28 rfl dX9_clear_7 ho0.1 ?_
  refine g_nmM (fun M2 hM2 => ?_); replace h := h M2 hM2
  refine g_aload_n (i := 0) dX9_clear_10 rfl rfl ?_
  refine g_iconst (v := (0 : Int32)) dX9_clear_11 (by decide) ?_
  refine gp_RX9_31 rfl dX9_clear_12 ho0.1 ?_
  refine g_nmM (fun M3 hM3 => ?_); replace h := h M3 hM3
  refine g_aload_n (i := 0) dX9_clear_15 rfl rfl ?_
  refine g_iconst (v := (0 : Int32)) dX9_clear_16 (by decide) ?_
  refine gp_RX9_34 rfl dX9_clear_17 ho0.1 ?_
  refine g_nmM (fun M4 hM4 => ?_); replace h := h M4 hM4
  exact g_vret dX9_clear_20 rfl h
theorem eX9_clear {κ : gK} {M : MM} {Q : Int32 → MM → Prop} (o0 : Nat)
    (h : G κ mX9_clear 0 [.ref o0] [] M Q) : Cl κ mX9_clear [.ref o0] M Q := g_entry 0 pl_X9_clear (Nat.le_of_ble_eq_true rfl) (L := [.ref o0]) rfl (g_sub _ (sub_c (Or.inr rfl) sub_n) h)
theorem dX9_copyFrom_0 : decode cX9_copyFrom 0 = .ok (.aload_n 1, 1) := by decide +kernel
theorem dX9_copyFrom_1 : decode cX9_copyFrom 1 = .ok (.getfield 9, 3) := by decide +kernel
theorem dX9_copyFrom_4 : decode cX9_copyFrom 4 = .ok (.iconst 0, 1) := by decide +kernel
theorem dX9_copyFrom_5 : decode cX9_copyFrom 5 = .ok (.aload_n 0, 1) := by decide +kernel
theorem dX9_copyFrom_6 : decode cX9_copyFrom 6 = .ok (.getfield 9, 3) := by decide +kernel
theorem dX9_copyFrom_9 : decode cX9_copyFrom 9 = .ok (.iconst 0, 1) := by decide +kernel
theorem dX9_copyFrom_10 : decode cX9_copyFrom 10 = .ok (.bipush 8, 2) := by decide +kernel
theorem dX9_copyFrom_12 : decode cX9_copyFrom 12 = .ok (.invokestatic 37, 3) := by decide +kernel
theorem dX9_copyFrom_15 : decode cX9_copyFrom 15 = .ok (.aload_n 1, 1) := by decide +kernel
theorem dX9_copyFrom_16 : decode cX9_copyFrom 16 = .ok (.getfield 15, 3) := by decide +kernel
theorem dX9_copyFrom_19 : decode cX9_copyFrom 19 = .ok (.iconst 0, 1) := by decide +kernel
theorem dX9_copyFrom_20 : decode cX9_copyFrom 20 = .ok (.aload_n 0, 1) := by decide +kernel
theorem dX9_copyFrom_21 : decode cX9_copyFrom 21 = .ok (.getfield 15, 3) := by decide +kernel
theorem dX9_copyFrom_24 : decode cX9_copyFrom 24 = .ok (.iconst 0, 1) := by decide +kernel
theorem dX9_copyFrom_25 : decode cX9_copyFrom 25 = .ok (.bipush 8, 2) := by decide +kernel
theorem dX9_copyFrom_27 : decode cX9_copyFrom 27 = .ok (.invokestatic 37, 3) := by decide +kernel
theorem dX9_copyFrom_30 : decode cX9_copyFrom 30 = .ok (.aload_n 1, 1) := by decide +kernel
theorem dX9_copyFrom_31 : decode cX9_copyFrom 31 = .ok (.getfield 18, 3) := by decide +kernel
theorem dX9_copyFrom_34 : decode cX9_copyFrom 34 = .ok (.iconst 0, 1) := by decide +kernel
theorem dX9_copyFrom_35 : decode cX9_copyFrom 35 = .ok (.aload_n 0, 1) := by decide +kernel
theorem dX9_copyFrom_36 : decode cX9_copyFrom 36 = .ok (.getfield 18, 3) := by decide +kernel
theorem dX9_copyFrom_39 : decode cX9_copyFrom 39 = .ok (.iconst 0, 1) := by decide +kernel
theorem dX9_copyFrom_40 : decode cX9_copyFrom 40 = .ok (.bipush 8, 2) := by decide +kernel
theorem dX9_copyFrom_42 : decode cX9_copyFrom 42 = .ok (.invokestatic 37, 3) := by decide +kernel
theorem dX9_copyFrom_45 : decode cX9_copyFrom 45 = .ok (.aload_n 1, 1) := by decide +kernel
theorem dX9_copyFrom_46 : decode cX9_copyFrom 46 = .ok (.getfield 21, 3) := by decide +kernel
theorem dX9_copyFrom_49 : decode cX9_copyFrom 49 = .ok (.iconst 0, 1) := by decide +kernel
theorem dX9_copyFrom_50 : decode cX9_copyFrom 50 = .ok (.aload_n 0, 1) := by decide +kernel
theorem dX9_copyFrom_51 : decode cX9_copyFrom 51 = .ok (.getfield 21, 3) := by decide +kernel
theorem dX9_copyFrom_54 : decode cX9_copyFrom 54 = .ok (.iconst 0, 1) := by decide +kernel
theorem dX9_copyFrom_55 : decode cX9_copyFrom 55 = .ok (.bipush 12, 2) := by decide +kernel
theorem dX9_copyFrom_57 : decode cX9_copyFrom 57 = .ok (.invokestatic 37, 3) := by decide +kernel
theorem dX9_copyFrom_60 : decode cX9_copyFrom 60 = .ok (.aload_n 0, 1) := by decide +kernel
theorem dX9_copyFrom_61 : decode cX9_copyFrom 61 = .ok (.aload_n 1, 1) := by decide +kernel
theorem dX9_copyFrom_62 : decode cX9_copyFrom 62 = .ok (.getfield 24, 3) := by decide +kernel
theorem dX9_copyFrom_65 : decode cX9_copyFrom 65 = .ok (.putfield 24, 3) := by decide +kernel
theorem dX9_copyFrom_68 : decode cX9_copyFrom 68 = .ok (.aload_n 0, 1) := by decide +kernel
theorem dX9_copyFrom_69 : decode cX9_copyFrom 69 = .ok (.aload_n 1, 1) := by decide +kernel
theorem dX9_copyFrom_70 : decode cX9_copyFrom 70 = .ok (.getfield 28, 3) := by decide +kernel
theorem dX9_copyFrom_73 : decode cX9_copyFrom 73 = .ok (.putfield 28, 3) := by decide +kernel
theorem dX9_copyFrom_76 : decode cX9_copyFrom 76 = .ok (.aload_n 0, 1) := by decide +kernel
theorem dX9_copyFrom_77 : decode cX9_copyFrom 77 = .ok (.aload_n 1, 1) := by decide +kernel
theorem dX9_copyFrom_78 : decode cX9_copyFrom 78 = .ok (.getfield 31, 3) := by decide +kernel
theorem dX9_copyFrom_81 : decode cX9_copyFrom 81 = .ok (.putfield 31, 3) := by decide +kernel
theorem dX9_copyFrom_84 : decode cX9_copyFrom 84 = .ok (.aload_n 0, 1) := by decide +kernel
theorem dX9_copyFrom_85 : decode cX9_copyFrom 85 = .ok (.aload_n 1, 1) := by decide +kernel
theorem dX9_copyFrom_86 : decode cX9_copyFrom 86 = .ok (.getfield 34, 3) := by decide +kernel
theorem dX9_copyFrom_89 : decode cX9_copyFrom 89 = .ok (.putfield 34, 3) := by decide +kernel
theorem dX9_copyFrom_92 : decode cX9_copyFrom 92 = .ok (.return_, 1) := by decide +kernel
theorem bX9_copyFrom_0 {κ : gK} {M : MM} {Q : Int32 → MM → Prop} (o0 : Nat) (o1 : Nat) (ho0 : twO o0) (ho1 : twO o1)
    (h : ∀ M1 : MM, M1 = (cp M (o1 + 1) (o0 + 1) 8) → (∀ M2 : MM, M2 = (cp M1 (o1 + 2) (o0 + 2) 8) → (∀ M3 : MM, M3 = (cp M2 (o1 + 3) (o0 + 3) 8) → (∀ M4 : MM, M4 = (cp M3 (o1 + 4) (o0 + 4) 12) → (∀ M5 : MM, M5 = (pt M4 o0 4 (M4 o1 4)) → (∀ M6 : MM, M6 = (pt M5 o0 5 (M5 o1 5)) → (∀ M7 : MM, M7 = (pt M6 o0 6 (M6 o1 6)) → (∀ M8 : MM, M8 = (pt M7 o0 7 (M7 o1 7)) → (Q 0 M8))))))))) :
    G κ mX9_copyFrom 0 [.ref o0, .ref o1] [] M Q := by
  refine g_aload_n (i := 1) dX9_copyFrom_0 rfl rfl ?_
  refine gf_RX9_9 rfl dX9_copyFrom_1 ho1.1 ?_
  refine g_iconst (v := (0 : Int32)) dX9_copyFrom_4 (by decide) ?_
  refine g_aload_n (i := 0) dX9_copyFrom_5 rfl rfl ?_
  refine gf_RX9_9 rfl dX9_copyFrom_6 ho0.1 ?_
  refine g_iconst (v := (0 : Int32)) dX9_copyFrom_9 (by decide) ?_
  refine g_bipush (v := (8 : Int32)) dX9_copyFrom_10 (by decide) ?_
  refine gc_RX9_37 rfl dX9_copyFrom_12 ho1.2.1 ho0.2.1 (by decide) (by decide) (by decide) (Nat.le_of_ble_eq_true rfl) rfl ?_
  refine g_nmM (fun M1 hM1 => ?_); replace h := h M1 hM1
  refine g_aload_n (i := 1) dX9_copyFrom_15 rfl rfl ?_
  refine gf_RX9_15 rfl dX9_copyFrom_16 ho1.1 ?_
  refine g_iconst (v := (0 : Int32)) dX9_copyFrom_19 (by decide) ?_
  refine g_aload_n (i := 0) dX9_copyFrom_20 rfl rfl ?_
  refine gf_RX9_15 rfl dX9_copyFrom_21 ho0.1 ?_
  refine g_iconst (v := (0 : Int32)) dX9_copyFrom_24 (by decide) ?_
  refine g_bipush (v := (8 : Int32)) dX9_copyFrom_25 (by decide) ?_
  refine gc_RX9_37 rfl dX9_copyFrom_27 ho1.2.2.1 ho0.2.2.1 (by decide) (by decide) (by decide) (Nat.le_of_ble_eq_true rfl) rfl ?_
  refine g_nmM (fun M2 hM2 => ?_); replace h := h M2 hM2
  refine g_aload_n (i := 1) dX9_copyFrom_30 rfl rfl ?_
  refine gf_RX9_18 rfl dX9_copyFrom_31 ho1.1 ?_
  refine g_iconst (v := (0 : Int32)) dX9_copyFrom_34 (by decide) ?_
  refine g_aload_n (i := 0) dX9_copyFrom_35 rfl rfl ?_
  refine gf_RX9_18 rfl dX9_copyFrom_36 ho0.1 ?_
  refine g_iconst (v := (0 : Int32)) dX9_copyFrom_39 (by decide) ?_
  refine g_bipush (v := (8 : Int32)) dX9_copyFrom_40 (by decide) ?_
  refine gc_RX9_37 rfl dX9_copyFrom_42 ho1.2.2.2.1 ho0.2.2.2.1 (by decide) (by decide) (by decide) (Nat.le_of_ble_eq_true rfl) rfl ?_
  refine g_nmM (fun M3 hM3 => ?_); replace h := h M3 hM3
  refine g_aload_n (i := 1) dX9_copyFrom_45 rfl rfl ?_
  refine gf_RX9_21 rfl dX9_copyFrom_46 ho1.1 ?_
  refine g_iconst (v := (0 : Int32)) dX9_copyFrom_49 (by decide) ?_
  refine g_aload_n (i := 0) dX9_copyFrom_50 rfl rfl ?_
  refine gf_RX9_21 rfl dX9_copyFrom_51 ho0.1 ?_
  refine g_iconst (v := (0 : Int32)) dX9_copyFrom_54 (by decide) ?_
  refine g_bipush (v := (12 : Int32)) dX9_copyFrom_55 (by decide) ?_
  refine gc_RX9_37 rfl dX9_copyFrom_57 ho1.2.2.2.2 ho0.2.2.2.2 (by decide) (by decide) (by decide) (Nat.le_of_ble_eq_true rfl) rfl ?_
  refine g_nmM (fun M4 hM4 => ?_); replace h := h M4 hM4
  refine g_aload_n (i := 0) dX9_copyFrom_60 rfl rfl ?_
  refine g_aload_n (i := 1) dX9_copyFrom_61 rfl rfl ?_
  refine gf_RX9_24 rfl dX9_copyFrom_62 ho1.1 ?_
  refine gp_RX9_24 rfl dX9_copyFrom_65 ho0.1 ?_
  refine g_nmM (fun M5 hM5 => ?_); replace h := h M5 hM5
  refine g_aload_n (i := 0) dX9_copyFrom_68 rfl rfl ?_
  refine g_aload_n (i := 1) dX9_copyFrom_69 rfl rfl ?_
  refine gf_RX9_28 rfl dX9_copyFrom_70 ho1.1 ?_
  refine gp_RX9_28 rfl dX9_copyFrom_73 ho0.1 ?_
  refine g_nmM (fun M6 hM6 => ?_); replace h := h M6 hM6
  refine g_aload_n (i := 0) dX9_copyFrom_76 rfl rfl ?_
  refine g_aload_n (i := 1) dX9_copyFrom_77 rfl rfl ?_
  refine gf_RX9_31 rfl dX9_copyFrom_78 ho1.1 ?_
  refine gp_RX9_31 rfl dX9_copyFrom_81 ho0.1 ?_
  refine g_nmM (fun M7 hM7 => ?_); replace h := h M7 hM7
  refine g_aload_n (i := 0) dX9_copyFrom_84 rfl rfl ?_
  refine g_aload_n (i := 1) dX9_copyFrom_85 rfl rfl ?_
  refine gf_RX9_34 rfl dX9_copyFrom_86 ho1.1 ?_
  refine gp_RX9_34 rfl dX9_copyFrom_89 ho0.1 ?_
  refine g_nmM (fun M8 hM8 => ?_); replace h := h M8 hM8
  exact g_vret dX9_copyFrom_92 rfl h
theorem eX9_copyFrom {κ : gK} {M : MM} {Q : Int32 → MM → Prop} (o0 : Nat) (o1 : Nat)
    (h : G κ mX9_copyFrom 0 [.ref o0, .ref o1] [] M Q) : Cl κ mX9_copyFrom [.ref o0, .ref o1] M Q := g_entry 0 pl_X9_copyFrom (Nat.le_of_ble_eq_true rfl) (L := [.ref o0, .ref o1]) rfl (g_sub _ (sub_c (Or.inr rfl) (sub_c (Or.inr rfl) sub_n)) h)
theorem dX9_isThere_0 : decode cX9_isThere 0 = .ok (.aload_n 0, 1) := by decide +kernel
theorem dX9_isThere_1 : decode cX9_isThere 1 = .ok (.getfield 24, 3) := by decide +kernel
theorem dX9_isThere_4 : decode cX9_isThere 4 = .ok (.ifCond .le 7, 3) := by decide +kernel
theorem dX9_isThere_7 : decode cX9_isThere 7 = .ok (.iconst 1, 1) := by decide +kernel
theorem dX9_isThere_8 : decode cX9_isThere 8 = .ok (.goto 4, 3) := by decide +kernel
theorem dX9_isThere_11 : decode cX9_isThere 11 = .ok (.iconst 0, 1) := by decide +kernel
theorem dX9_isThere_12 : decode cX9_isThere 12 = .ok (.ireturn, 1) := by decide +kernel
theorem bX9_isThere_0 {κ : gK} {M : MM} {Q : Int32 → MM → Prop} (o0 : Nat) (ho0 : twO o0)
    (h : (((M o0 4) ≤ 0 → G κ mX9_isThere 12 [.null] [.int (0 : Int32)] M Q) ∧ (¬ (M o0 4) ≤ 0 → G κ mX9_isThere 12 [.null] [.int (1 : Int32)] M Q))) :
    G κ mX9_isThere 0 [.ref o0] [] M Q := by
  refine g_aload_n (i := 0) dX9_isThere_0 rfl rfl ?_
  refine gf_RX9_24 rfl dX9_isThere_1 ho0.1 ?_
  refine g_if_le (tgt := 11) dX9_isThere_4 rfl ⟨fun hc => ?_, fun hc => ?_⟩
  · replace h := h.1 hc
    refine g_iconst (v := (0 : Int32)) dX9_isThere_11 (by decide) ?_
    exact g_sub _ (sub_c (Or.inl rfl) sub_n) h
  · replace h := h.2 hc
    refine g_iconst (v := (1 : Int32)) dX9_isThere_7 (by decide) ?_
    refine g_goto (tgt := 12) dX9_isThere_8 rfl ?_
    exact g_sub _ (sub_c (Or.inl rfl) sub_n) h
theorem bX9_isThere_12 {κ : gK} {M : MM} {Q : Int32 → MM → Prop} (o0 : Nat) (ho0 : twO o0) (s0 : Int32)
    (h : (isB s0 ∧ Q s0 M)) :
    G κ mX9_isThere 12 [.null] [.int s0] M Q := by
  exact g_zret dX9_isThere_12 rfl (isB_n h.1) h.2
theorem eX9_isThere {κ : gK} {M : MM} {Q : Int32 → MM → Prop} (o0 : Nat)
    (h : G κ mX9_isThere 0 [.ref o0] [] M Q) : Cl κ mX9_isThere [.ref o0] M Q := g_entry 0 pl_X9_isThere (Nat.le_of_ble_eq_true rfl) (L := [.ref o0]) rfl (g_sub _ (sub_c (Or.inr rfl) sub_n) h)
theorem dX9_hasPerson_0 : decode cX9_hasPerson 0 = .ok (.iload_n 1, 1) := by decide +kernel
theorem dX9_hasPerson_1 : decode cX9_hasPerson 1 = .ok (.ifCond .lt 15, 3) := by decide +kernel
theorem dX9_hasPerson_4 : decode cX9_hasPerson 4 = .ok (.iload_n 1, 1) := by decide +kernel
theorem dX9_hasPerson_5 : decode cX9_hasPerson 5 = .ok (.aload_n 0, 1) := by decide +kernel
theorem dX9_hasPerson_6 : decode cX9_hasPerson 6 = .ok (.getfield 31, 3) := by decide +kernel
theorem dX9_hasPerson_9 : decode cX9_hasPerson 9 = .ok (.if_icmp .ge 7, 3) := by decide +kernel
theorem dX9_hasPerson_12 : decode cX9_hasPerson 12 = .ok (.iconst 1, 1) := by decide +kernel
theorem dX9_hasPerson_13 : decode cX9_hasPerson 13 = .ok (.goto 4, 3) := by decide +kernel
theorem dX9_hasPerson_16 : decode cX9_hasPerson 16 = .ok (.iconst 0, 1) := by decide +kernel
theorem dX9_hasPerson_17 : decode cX9_hasPerson 17 = .ok (.ireturn, 1) := by decide +kernel
theorem bX9_hasPerson_0 {κ : gK} {M : MM} {Q : Int32 → MM → Prop} (o0 : Nat) (ho0 : twO o0) (l1 : Int32)
    (h : ((l1 < 0 → G κ mX9_hasPerson 16 [.null, .null] [] M Q) ∧ (¬ l1 < 0 → (((M o0 6) ≤ l1 → G κ mX9_hasPerson 16 [.null, .null] [] M Q) ∧ (¬ (M o0 6) ≤ l1 → G κ mX9_hasPerson 17 [.null, .null] [.int (1 : Int32)] M Q))))) :
    G κ mX9_hasPerson 0 [.ref o0, .int l1] [] M Q := by
  refine g_iload_n (i := 1) dX9_hasPerson_0 rfl rfl ?_
  refine g_if_lt (tgt := 16) dX9_hasPerson_1 rfl ⟨fun hc => ?_, fun hc => ?_⟩
  · replace h := h.1 hc
    exact g_sub _ (sub_c (Or.inl rfl) (sub_c (Or.inl rfl) sub_n)) h
  · replace h := h.2 hc
    refine g_iload_n (i := 1) dX9_hasPerson_4 rfl rfl ?_
    refine g_aload_n (i := 0) dX9_hasPerson_5 rfl rfl ?_
    refine gf_RX9_31 rfl dX9_hasPerson_6 ho0.1 ?_
    refine g_icmp_ge (tgt := 16) dX9_hasPerson_9 rfl ⟨fun hc => ?_, fun hc => ?_⟩
    · replace h := h.1 hc
      exact g_sub _ (sub_c (Or.inl rfl) (sub_c (Or.inl rfl) sub_n)) h
    · replace h := h.2 hc
      refine g_iconst (v := (1 : Int32)) dX9_hasPerson_12 (by decide) ?_
      refine g_goto (tgt := 17) dX9_hasPerson_13 rfl ?_
      exact g_sub _ (sub_c (Or.inl rfl) (sub_c (Or.inl rfl) sub_n)) h
theorem bX9_hasPerson_16 {κ : gK} {M : MM} {Q : Int32 → MM → Prop} (o0 : Nat) (ho0 : twO o0)
    (h : G κ mX9_hasPerson 17 [.null, .null] [.int (0 : Int32)] M Q) :
    G κ mX9_hasPerson 16 [.null, .null] [] M Q := by
  refine g_iconst (v := (0 : Int32)) dX9_hasPerson_16 (by decide) ?_
  exact h
theorem bX9_hasPerson_17 {κ : gK} {M : MM} {Q : Int32 → MM → Prop} (o0 : Nat) (ho0 : twO o0) (s0 : Int32)
    (h : (isB s0 ∧ Q s0 M)) :
    G κ mX9_hasPerson 17 [.null, .null] [.int s0] M Q := by
  exact g_zret dX9_hasPerson_17 rfl (isB_n h.1) h.2
theorem eX9_hasPerson {κ : gK} {M : MM} {Q : Int32 → MM → Prop} (o0 : Nat) (l1 : Int32)
    (h : G κ mX9_hasPerson 0 [.ref o0, .int l1] [] M Q) : Cl κ mX9_hasPerson [.ref o0, .int l1] M Q := g_entry 0 pl_X9_hasPerson (Nat.le_of_ble_eq_true rfl) (L := [.ref o0, .int l1]) rfl (g_sub _ (sub_c (Or.inr rfl) (sub_c (Or.inr rfl) sub_n)) h)
theorem dX9_hasLayer_0 : decode cX9_hasLayer 0 = .ok (.iload_n 1, 1) := by decide +kernel
theorem dX9_hasLayer_1 : decode cX9_hasLayer 1 = .ok (.ifCond .lt 15, 3) := by decide +kernel
theorem dX9_hasLayer_4 : decode cX9_hasLayer 4 = .ok (.iload_n 1, 1) := by decide +kernel
theorem dX9_hasLayer_5 : decode cX9_hasLayer 5 = .ok (.aload_n 0, 1) := by decide +kernel
theorem dX9_hasLayer_6 : decode cX9_hasLayer 6 = .ok (.getfield 24, 3) := by decide +kernel
theorem dX9_hasLayer_9 : decode cX9_hasLayer 9 = .ok (.if_icmp .ge 7, 3) := by decide +kernel
theorem dX9_hasLayer_12 : decode cX9_hasLayer 12 = .ok (.iconst 1, 1) := by decide +kernel
theorem dX9_hasLayer_13 : decode cX9_hasLayer 13 = .ok (.goto 4, 3) := by decide +kernel
theorem dX9_hasLayer_16 : decode cX9_hasLayer 16 = .ok (.iconst 0, 1) := by decide +kernel
theorem dX9_hasLayer_17 : decode cX9_hasLayer 17 = .ok (.ireturn, 1) := by decide +kernel
theorem bX9_hasLayer_0 {κ : gK} {M : MM} {Q : Int32 → MM → Prop} (o0 : Nat) (ho0 : twO o0) (l1 : Int32)
    (h : ((l1 < 0 → G κ mX9_hasLayer 16 [.null, .null] [] M Q) ∧ (¬ l1 < 0 → (((M o0 4) ≤ l1 → G κ mX9_hasLayer 16 [.null, .null] [] M Q) ∧ (¬ (M o0 4) ≤ l1 → G κ mX9_hasLayer 17 [.null, .null] [.int (1 : Int32)] M Q))))) :
    G κ mX9_hasLayer 0 [.ref o0, .int l1] [] M Q := by
  refine g_iload_n (i := 1) dX9_hasLayer_0 rfl rfl ?_
  refine g_if_lt (tgt := 16) dX9_hasLayer_1 rfl ⟨fun hc => ?_, fun hc => ?_⟩
  · replace h := h.1 hc
    exact g_sub _ (sub_c (Or.inl rfl) (sub_c (Or.inl rfl) sub_n)) h
  · replace h := h.2 hc
    refine g_iload_n (i := 1) dX9_hasLayer_4 rfl rfl ?_
    refine g_aload_n (i := 0) dX9_hasLayer_5 rfl rfl ?_
    refine gf_RX9_24 rfl dX9_hasLayer_6 ho0.1 ?_
    refine g_icmp_ge (tgt := 16) dX9_hasLayer_9 rfl ⟨fun hc => ?_, fun hc => ?_⟩
    · replace h := h.1 hc
      exact g_sub _ (sub_c (Or.inl rfl) (sub_c (Or.inl rfl) sub_n)) h
    · replace h := h.2 hc
      refine g_iconst (v := (1 : Int32)) dX9_hasLayer_12 (by decide) ?_
      refine g_goto (tgt := 17) dX9_hasLayer_13 rfl ?_
      exact g_sub _ (sub_c (Or.inl rfl) (sub_c (Or.inl rfl) sub_n)) h
theorem bX9_hasLayer_16 {κ : gK} {M : MM} {Q : Int32 → MM → Prop} (o0 : Nat) (ho0 : twO o0)
    (h : G κ mX9_hasLayer 17 [.null, .null] [.int (0 : Int32)] M Q) :
    G κ mX9_hasLayer 16 [.null, .null] [] M Q := by
  refine g_iconst (v := (0 : Int32)) dX9_hasLayer_16 (by decide) ?_
  exact h
theorem bX9_hasLayer_17 {κ : gK} {M : MM} {Q : Int32 → MM → Prop} (o0 : Nat) (ho0 : twO o0) (s0 : Int32)
    (h : (isB s0 ∧ Q s0 M)) :
    G κ mX9_hasLayer 17 [.null, .null] [.int s0] M Q := by
  exact g_zret dX9_hasLayer_17 rfl (isB_n h.1) h.2
theorem eX9_hasLayer {κ : gK} {M : MM} {Q : Int32 → MM → Prop} (o0 : Nat) (l1 : Int32)
    (h : G κ mX9_hasLayer 0 [.ref o0, .int l1] [] M Q) : Cl κ mX9_hasLayer [.ref o0, .int l1] M Q := g_entry 0 pl_X9_hasLayer (Nat.le_of_ble_eq_true rfl) (L := [.ref o0, .int l1]) rfl (g_sub _ (sub_c (Or.inr rfl) (sub_c (Or.inr rfl) sub_n)) h)
theorem dX9_hasAll_0 : decode cX9_hasAll 0 = .ok (.iload_n 1, 1) := by decide +kernel
theorem dX9_hasAll_1 : decode cX9_hasAll 1 = .ok (.aload_n 0, 1) := by decide +kernel
theorem dX9_hasAll_2 : decode cX9_hasAll 2 = .ok (.invokevirtual 43, 3) := by decide +kernel
theorem dX9_hasAll_5 : decode cX9_hasAll 5 = .ok (.iconst (-1), 1) := by decide +kernel
theorem dX9_hasAll_6 : decode cX9_hasAll 6 = .ok (.ixor, 1) := by decide +kernel
theorem dX9_hasAll_7 : decode cX9_hasAll 7 = .ok (.iand, 1) := by decide +kernel
theorem dX9_hasAll_8 : decode cX9_hasAll 8 = .ok (.ifCond .ne 7, 3) := by decide +kernel
theorem dX9_hasAll_11 : decode cX9_hasAll 11 = .ok (.iconst 1, 1) := by decide +kernel
theorem dX9_hasAll_12 : decode cX9_hasAll 12 = .ok (.goto 4, 3) := by decide +kernel
theorem dX9_hasAll_15 : decode cX9_hasAll 15 = .ok (.iconst 0, 1) := by decide +kernel
theorem dX9_hasAll_16 : decode cX9_hasAll 16 = .ok (.ireturn, 1) := by decide +kernel
theorem bX9_hasAll_0 {κ : gK} {M : MM} {Q : Int32 → MM → Prop} (o0 : Nat) (ho0 : twO o0) (l1 : Int32)
    (h : Cl κ mX9_allPersons [.ref o0] M (fun r1 M1 => (((l1 &&& (r1 ^^^ (-1 : Int32))) = 0 → G κ mX9_hasAll 16 [.null, .null] [.int (1 : Int32)] M1 Q) ∧ (¬ (l1 &&& (r1 ^^^ (-1 : Int32))) = 0 → G κ mX9_hasAll 16 [.null, .null] [.int (0 : Int32)] M1 Q)))) :
    G κ mX9_hasAll 0 [.ref o0, .int l1] [] M Q := by
  refine g_iload_n (i := 1) dX9_hasAll_0 rfl rfl ?_
  refine g_aload_n (i := 0) dX9_hasAll_1 rfl rfl ?_
  refine gc_RX9_43 rfl (Nat.le_of_ble_eq_true rfl) dX9_hasAll_2 ho0.1 (Nat.le_of_ble_eq_true rfl) ?_
  refine Cl.mono h (fun r1 M1 h => ?_)
  refine g_iconst (v := (-1 : Int32)) dX9_hasAll_5 (by decide) ?_
  refine g_ixor dX9_hasAll_6 ?_
  refine g_iand dX9_hasAll_7 ?_
  refine g_if_ne (tgt := 15) dX9_hasAll_8 rfl ⟨fun hc => ?_, fun hc => ?_⟩
  · replace h := h.1 hc
    refine g_iconst (v := (1 : Int32)) dX9_hasAll_11 (by decide) ?_
    refine g_goto (tgt := 16) dX9_hasAll_12 rfl ?_
    exact g_sub _ (sub_c (Or.inl rfl) (sub_c (Or.inl rfl) sub_n)) h
  · replace h := h.2 hc
    refine g_iconst (v := (0 : Int32)) dX9_hasAll_15 (by decide) ?_
    exact g_sub _ (sub_c (Or.inl rfl) (sub_c (Or.inl rfl) sub_n)) h
theorem bX9_hasAll_16 {κ : gK} {M : MM} {Q : Int32 → MM → Prop} (o0 : Nat) (ho0 : twO o0) (s0 : Int32)
    (h : (isB s0 ∧ Q s0 M)) :
    G κ mX9_hasAll 16 [.null, .null] [.int s0] M Q := by
  exact g_zret dX9_hasAll_16 rfl (isB_n h.1) h.2
theorem eX9_hasAll {κ : gK} {M : MM} {Q : Int32 → MM → Prop} (o0 : Nat) (l1 : Int32)
    (h : G κ mX9_hasAll 0 [.ref o0, .int l1] [] M Q) : Cl κ mX9_hasAll [.ref o0, .int l1] M Q := g_entry 0 pl_X9_hasAll (Nat.le_of_ble_eq_true rfl) (L := [.ref o0, .int l1]) rfl (g_sub _ (sub_c (Or.inr rfl) (sub_c (Or.inr rfl) sub_n)) h)
theorem dX9_allPersons_0 : decode cX9_allPersons 0 = .ok (.iconst 1, 1) := by decide +kernel
theorem dX9_allPersons_1 : decode cX9_allPersons 1 = .ok (.aload_n 0, 1) := by decide +kernel
theorem dX9_allPersons_2 : decode cX9_allPersons 2 = .ok (.getfield 31, 3) := by decide +kernel
theorem dX9_allPersons_5 : decode cX9_allPersons 5 = .ok (.ishl, 1) := by decide +kernel
theorem dX9_allPersons_6 : decode cX9_allPersons 6 = .ok (.iconst 1, 1) := by decide +kernel
theorem dX9_allPersons_7 : decode cX9_allPersons 7 = .ok (.isub, 1) := by decide +kernel
theorem dX9_allPersons_8 : decode cX9_allPersons 8 = .ok (.ireturn, 1) := by decide +kernel
theorem bX9_allPersons_0 {κ : gK} {M : MM} {Q : Int32 → MM → Prop} (o0 : Nat) (ho0 : twO o0)
    (h : Q ((jshl (1 : Int32) (M o0 6)) - (1 : Int32)) M) :
    G κ mX9_allPersons 0 [.ref o0] [] M Q := by
  refine g_iconst (v := (1 : Int32)) dX9_allPersons_0 (by decide) ?_
  refine g_aload_n (i := 0) dX9_allPersons_1 rfl rfl ?_
  refine gf_RX9_31 rfl dX9_allPersons_2 ho0.1 ?_
  refine g_ishl dX9_allPersons_5 ?_
  refine g_iconst (v := (1 : Int32)) dX9_allPersons_6 (by decide) ?_
  refine g_isub dX9_allPersons_7 ?_
  exact g_iret dX9_allPersons_8 rfl h
theorem eX9_allPersons {κ : gK} {M : MM} {Q : Int32 → MM → Prop} (o0 : Nat)
    (h : G κ mX9_allPersons 0 [.ref o0] [] M Q) : Cl κ mX9_allPersons [.ref o0] M Q := g_entry 0 pl_X9_allPersons (Nat.le_of_ble_eq_true rfl) (L := [.ref o0]) rfl (g_sub _ (sub_c (Or.inr rfl) sub_n) h)
theorem dX9_lightOf_0 : decode cX9_lightOf 0 = .ok (.aload_n 0, 1) := by decide +kernel
theorem dX9_lightOf_1 : decode cX9_lightOf 1 = .ok (.invokevirtual 47, 3) := by decide +kernel
theorem dX9_lightOf_4 : decode cX9_lightOf 4 = .ok (.ifCond .ne 5, 3) := by decide +kernel
theorem dX9_lightOf_7 : decode cX9_lightOf 7 = .ok (.iconst 0, 1) := by decide +kernel
theorem dX9_lightOf_8 : decode cX9_lightOf 8 = .ok (.ireturn, 1) := by decide +kernel
theorem dX9_lightOf_9 : decode cX9_lightOf 9 = .ok (.aload_n 0, 1) := by decide +kernel
theorem dX9_lightOf_10 : decode cX9_lightOf 10 = .ok (.getfield 34, 3) := by decide +kernel
theorem dX9_lightOf_13 : decode cX9_lightOf 13 = .ok (.ifCond .le 17, 3) := by decide +kernel
theorem dX9_lightOf_16 : decode cX9_lightOf 16 = .ok (.aload_n 0, 1) := by decide +kernel
theorem dX9_lightOf_17 : decode cX9_lightOf 17 = .ok (.getfield 21, 3) := by decide +kernel
theorem dX9_lightOf_20 : decode cX9_lightOf 20 = .ok (.iload_n 1, 1) := by decide +kernel
theorem dX9_lightOf_21 : decode cX9_lightOf 21 = .ok (.aload_n 0, 1) := by decide +kernel
theorem dX9_lightOf_22 : decode cX9_lightOf 22 = .ok (.getfield 34, 3) := by decide +kernel
theorem dX9_lightOf_25 : decode cX9_lightOf 25 = .ok (.irem, 1) := by decide +kernel
theorem dX9_lightOf_26 : decode cX9_lightOf 26 = .ok (.iaload, 1) := by decide +kernel
theorem dX9_lightOf_27 : decode cX9_lightOf 27 = .ok (.goto 4, 3) := by decide +kernel
theorem dX9_lightOf_30 : decode cX9_lightOf 30 = .ok (.iconst 5, 1) := by decide +kernel
theorem dX9_lightOf_31 : decode cX9_lightOf 31 = .ok (.ireturn, 1) := by decide +kernel
theorem bX9_lightOf_0 {κ : gK} {M : MM} {Q : Int32 → MM → Prop} (o0 : Nat) (ho0 : twO o0) (l1 : Int32)
    (h : Cl κ mX9_isThere [.ref o0] M (fun r1 M1 => ((r1 = 0 → Q (0 : Int32) M1) ∧ (¬ r1 = 0 → (((M1 o0 7) ≤ 0 → G κ mX9_lightOf 31 [.null, .null] [.int (5 : Int32)] M1 Q) ∧ (¬ (M1 o0 7) ≤ 0 → (¬ (M1 o0 7) = 0) ∧ ((vp_in (irm l1 (M1 o0 7)) 12) ∧ (G κ mX9_lightOf 31 [.null, .null] [.int (M1 (o0 + 4) ((irm l1 (M1 o0 7))).toNatClampNeg)] M1 Q)))))))) :
    G κ mX9_lightOf 0 [.ref o0, .int l1] [] M Q := by
  refine g_aload_n (i := 0) dX9_lightOf_0 rfl rfl ?_
  refine gc_RX9_47 rfl (Nat.le_of_ble_eq_true rfl) dX9_lightOf_1 ho0.1 (Nat.le_of_ble_eq_true rfl) ?_
  refine Cl.mono h (fun r1 M1 h => ?_)
  refine g_if_ne (tgt := 9) dX9_lightOf_4 rfl ⟨fun hc => ?_, fun hc => ?_⟩
  · replace h := h.1 hc
    refine g_iconst (v := (0 : Int32)) dX9_lightOf_7 (by decide) ?_
    exact g_iret dX9_lightOf_8 rfl h
  · replace h := h.2 hc
    refine g_aload_n (i := 0) dX9_lightOf_9 rfl rfl ?_
    refine gf_RX9_34 rfl dX9_lightOf_10 ho0.1 ?_
    refine g_if_le (tgt := 30) dX9_lightOf_13 rfl ⟨fun hc => ?_, fun hc => ?_⟩
    · replace h := h.1 hc
      refine g_iconst (v := (5 : Int32)) dX9_lightOf_30 (by decide) ?_
      exact g_sub _ (sub_c (Or.inl rfl) (sub_c (Or.inl rfl) sub_n)) h
    · replace h := h.2 hc
      refine g_aload_n (i := 0) dX9_lightOf_16 rfl rfl ?_
      refine gf_RX9_21 rfl dX9_lightOf_17 ho0.1 ?_
      refine g_iload_n (i := 1) dX9_lightOf_20 rfl rfl ?_
      refine g_aload_n (i := 0) dX9_lightOf_21 rfl rfl ?_
      refine gf_RX9_34 rfl dX9_lightOf_22 ho0.1 ?_
      have hv1 := h.1; replace h := h.2
      refine g_irem dX9_lightOf_25 hv1 ?_
      have hv2 := h.1; replace h := h.2
      refine g_iald dX9_lightOf_26 ho0.2.2.2.2 hv2 ?_
      refine g_goto (tgt := 31) dX9_lightOf_27 rfl ?_
      exact g_sub _ (sub_c (Or.inl rfl) (sub_c (Or.inl rfl) sub_n)) h
theorem bX9_lightOf_31 {κ : gK} {M : MM} {Q : Int32 → MM → Prop} (o0 : Nat) (ho0 : twO o0) (s0 : Int32)
    (h : Q s0 M) :
    G κ mX9_lightOf 31 [.null, .null] [.int s0] M Q := by
  exact g_iret dX9_lightOf_31 rfl h
theorem eX9_lightOf {κ : gK} {M : MM} {Q : Int32 → MM → Prop} (o0 : Nat) (l1 : Int32)
    (h : G κ mX9_lightOf 0 [.ref o0, .int l1] [] M Q) : Cl κ mX9_lightOf [.ref o0, .int l1] M Q := g_entry 0 pl_X9_lightOf (Nat.le_of_ble_eq_true rfl) (L := [.ref o0, .int l1]) rfl (g_sub _ (sub_c (Or.inr rfl) (sub_c (Or.inr rfl) sub_n)) h)
theorem dX9_strideOf_0 : decode cX9_strideOf 0 = .ok (.aload_n 0, 1) := by decide +kernel
theorem dX9_strideOf_1 : decode cX9_strideOf 1 = .ok (.getfield 24, 3) := by decide +kernel
theorem dX9_strideOf_4 : decode cX9_strideOf 4 = .ok (.ifCond .gt 5, 3) := by decide +kernel
theorem dX9_strideOf_7 : decode cX9_strideOf 7 = .ok (.iconst 0, 1) := by decide +kernel
theorem dX9_strideOf_8 : decode cX9_strideOf 8 = .ok (.ireturn, 1) := by decide +kernel
theorem dX9_strideOf_9 : decode cX9_strideOf 9 = .ok (.iload_n 1, 1) := by decide +kernel
theorem dX9_strideOf_10 : decode cX9_strideOf 10 = .ok (.lookupswitch 40 #[(1, 26), (3, 33)], 26) := by decide +kernel
theorem dX9_strideOf_36 : decode cX9_strideOf 36 = .ok (.iconst 2, 1) := by decide +kernel
theorem dX9_strideOf_37 : decode cX9_strideOf 37 = .ok (.aload_n 0, 1) := by decide +kernel
theorem dX9_strideOf_38 : decode cX9_strideOf 38 = .ok (.getfield 24, 3) := by decide +kernel
theorem dX9_strideOf_41 : decode cX9_strideOf 41 = .ok (.irem, 1) := by decide +kernel
theorem dX9_strideOf_42 : decode cX9_strideOf 42 = .ok (.ireturn, 1) := by decide +kernel
theorem dX9_strideOf_43 : decode cX9_strideOf 43 = .ok (.aload_n 0, 1) := by decide +kernel
theorem dX9_strideOf_44 : decode cX9_strideOf 44 = .ok (.getfield 24, 3) := by decide +kernel
theorem dX9_strideOf_47 : decode cX9_strideOf 47 = .ok (.iconst 1, 1) := by decide +kernel
theorem dX9_strideOf_48 : decode cX9_strideOf 48 = .ok (.isub, 1) := by decide +kernel
theorem dX9_strideOf_49 : decode cX9_strideOf 49 = .ok (.ireturn, 1) := by decide +kernel
theorem dX9_strideOf_50 : decode cX9_strideOf 50 = .ok (.iconst 1, 1) := by decide +kernel
theorem dX9_strideOf_51 : decode cX9_strideOf 51 = .ok (.ireturn, 1) := by decide +kernel
theorem bX9_strideOf_0 {κ : gK} {M : MM} {Q : Int32 → MM → Prop} (o0 : Nat) (ho0 : twO o0) (l1 : Int32)
    (h : ((0 < (M o0 4) → ((l1 = (1 : Int32) → (¬ (M o0 4) = 0) ∧ (Q (irm (2 : Int32) (M o0 4)) M)) ∧ (l1 = (3 : Int32) → Q ((M o0 4) - (1 : Int32)) M) ∧ ((¬ l1 = (1 : Int32) ∧ ¬ l1 = (3 : Int32)) → Q (1 : Int32) M))) ∧ (¬ 0 < (M o0 4) → Q (0 : Int32) M))) :
    G κ mX9_strideOf 0 [.ref o0, .int l1] [] M Q := by
  refine g_aload_n (i := 0) dX9_strideOf_0 rfl rfl ?_
  refine gf_RX9_24 rfl dX9_strideOf_1 ho0.1 ?_
  refine g_if_gt (tgt := 9) dX9_strideOf_4 rfl ⟨fun hc => ?_, fun hc => ?_⟩
  · replace h := h.1 hc
    refine g_iload_n (i := 1) dX9_strideOf_9 rfl rfl ?_
    by_cases hx0 : l1 = (1 : Int32)
    · replace h := h.1 hx0
      refine g_look (off := 26) (tgt := 36) dX9_strideOf_10 rfl (by rw [hx0] <;> rfl) rfl ?_
      refine g_iconst (v := (2 : Int32)) dX9_strideOf_36 (by decide) ?_
      refine g_aload_n (i := 0) dX9_strideOf_37 rfl rfl ?_
      refine gf_RX9_24 rfl dX9_strideOf_38 ho0.1 ?_
      have hv1 := h.1; replace h := h.2
      refine g_irem dX9_strideOf_41 hv1 ?_
      exact g_iret dX9_strideOf_42 rfl h
    by_cases hx1 : l1 = (3 : Int32)
    · replace h := h.2.1 hx1
      refine g_look (off := 33) (tgt := 43) dX9_strideOf_10 rfl (by rw [hx1] <;> rfl) rfl ?_
      refine g_aload_n (i := 0) dX9_strideOf_43 rfl rfl ?_
      refine gf_RX9_24 rfl dX9_strideOf_44 ho0.1 ?_
      refine g_iconst (v := (1 : Int32)) dX9_strideOf_47 (by decide) ?_
      refine g_isub dX9_strideOf_48 ?_
      exact g_iret dX9_strideOf_49 rfl h
    replace h := h.2.2 ⟨hx0, hx1⟩
    refine g_look (off := 40) (tgt := 50) dX9_strideOf_10 rfl (show Op.lookupswitch.offset [(1, 26), (3, 33)] 40 _ = _ from ((lv_osw hx0 rfl).trans ((lv_osw hx1 rfl).trans rfl))) rfl ?_
    refine g_iconst (v := (1 : Int32)) dX9_strideOf_50 (by decide) ?_
    exact g_iret dX9_strideOf_51 rfl h
  · replace h := h.2 hc
    refine g_iconst (v := (0 : Int32)) dX9_strideOf_7 (by decide) ?_
    exact g_iret dX9_strideOf_8 rfl h
theorem eX9_strideOf {κ : gK} {M : MM} {Q : Int32 → MM → Prop} (o0 : Nat) (l1 : Int32)
    (h : G κ mX9_strideOf 0 [.ref o0, .int l1] [] M Q) : Cl κ mX9_strideOf [.ref o0, .int l1] M Q := g_entry 0 pl_X9_strideOf (Nat.le_of_ble_eq_true rfl) (L := [.ref o0, .int l1]) rfl (g_sub _ (sub_c (Or.inr rfl) (sub_c (Or.inr rfl) sub_n)) h)
theorem dX9_goneOn_0 : decode cX9_goneOn 0 = .ok (.aload_n 0, 1) := by decide +kernel
theorem dX9_goneOn_1 : decode cX9_goneOn 1 = .ok (.getfield 24, 3) := by decide +kernel
theorem dX9_goneOn_4 : decode cX9_goneOn 4 = .ok (.ifCond .gt 5, 3) := by decide +kernel
theorem dX9_goneOn_7 : decode cX9_goneOn 7 = .ok (.iload_n 1, 1) := by decide +kernel
theorem dX9_goneOn_8 : decode cX9_goneOn 8 = .ok (.ireturn, 1) := by decide +kernel
theorem dX9_goneOn_9 : decode cX9_goneOn 9 = .ok (.iload_n 1, 1) := by decide +kernel
theorem dX9_goneOn_10 : decode cX9_goneOn 10 = .ok (.iload_n 2, 1) := by decide +kernel
theorem dX9_goneOn_11 : decode cX9_goneOn 11 = .ok (.ishl, 1) := by decide +kernel
theorem dX9_goneOn_12 : decode cX9_goneOn 12 = .ok (.iload_n 1, 1) := by decide +kernel
theorem dX9_goneOn_13 : decode cX9_goneOn 13 = .ok (.aload_n 0, 1) := by decide +kernel
theorem dX9_goneOn_14 : decode cX9_goneOn 14 = .ok (.getfield 24, 3) := by decide +kernel
theorem dX9_goneOn_17 : decode cX9_goneOn 17 = .ok (.iload_n 2, 1) := by decide +kernel
theorem dX9_goneOn_18 : decode cX9_goneOn 18 = .ok (.isub, 1) := by decide +kernel
theorem dX9_goneOn_19 : decode cX9_goneOn 19 = .ok (.ishr, 1) := by decide +kernel
theorem dX9_goneOn_20 : decode cX9_goneOn 20 = .ok (.ior, 1) := by decide +kernel
theorem dX9_goneOn_21 : decode cX9_goneOn 21 = .ok (.iconst 1, 1) := by decide +kernel
theorem dX9_goneOn_22 : decode cX9_goneOn 22 = .ok (.aload_n 0, 1) := by decide +kernel
theorem dX9_goneOn_23 : decode cX9_goneOn 23 = .ok (.getfield 24, 3) := by decide +kernel
theorem dX9_goneOn_26 : decode cX9_goneOn 26 = .ok (.ishl, 1) := by decide +kernel
theorem dX9_goneOn_27 : decode cX9_goneOn 27 = .ok (.iconst 1, 1) := by decide +kernel
theorem dX9_goneOn_28 : decode cX9_goneOn 28 = .ok (.isub, 1) := by decide +kernel
theorem dX9_goneOn_29 : decode cX9_goneOn 29 = .ok (.iand, 1) := by decide +kernel
theorem dX9_goneOn_30 : decode cX9_goneOn 30 = .ok (.ireturn, 1) := by decide +kernel
theorem bX9_goneOn_0 {κ : gK} {M : MM} {Q : Int32 → MM → Prop} (o0 : Nat) (ho0 : twO o0) (l1 : Int32) (l2 : Int32)
    (h : ((0 < (M o0 4) → Q (((jshl l1 l2) ||| (jshr l1 ((M o0 4) - l2))) &&& ((jshl (1 : Int32) (M o0 4)) - (1 : Int32))) M) ∧ (¬ 0 < (M o0 4) → Q l1 M))) :
    G κ mX9_goneOn 0 [.ref o0, .int l1, .int l2] [] M Q := by
  refine g_aload_n (i := 0) dX9_goneOn_0 rfl rfl ?_
  refine gf_RX9_24 rfl dX9_goneOn_1 ho0.1 ?_
  refine g_if_gt (tgt := 9) dX9_goneOn_4 rfl ⟨fun hc => ?_, fun hc => ?_⟩
  · replace h := h.1 hc
    refine g_iload_n (i := 1) dX9_goneOn_9 rfl rfl ?_
    refine g_iload_n (i := 2) dX9_goneOn_10 rfl rfl ?_
    refine g_ishl dX9_goneOn_11 ?_
    refine g_iload_n (i := 1) dX9_goneOn_12 rfl rfl ?_
    refine g_aload_n (i := 0) dX9_goneOn_13 rfl rfl ?_
    refine gf_RX9_24 rfl dX9_goneOn_14 ho0.1 ?_
    refine g_iload_n (i := 2) dX9_goneOn_17 rfl rfl ?_
    refine g_isub dX9_goneOn_18 ?_
    refine g_ishr dX9_goneOn_19 ?_
    refine g_ior dX9_goneOn_20 ?_
    refine g_iconst (v := (1 : Int32)) dX9_goneOn_21 (by decide) ?_
    refine g_aload_n (i := 0) dX9_goneOn_22 rfl rfl ?_
    refine gf_RX9_24 rfl dX9_goneOn_23 ho0.1 ?_
    refine g_ishl dX9_goneOn_26 ?_
    refine g_iconst (v := (1 : Int32)) dX9_goneOn_27 (by decide) ?_
    refine g_isub dX9_goneOn_28 ?_
    refine g_iand dX9_goneOn_29 ?_
    exact g_iret dX9_goneOn_30 rfl h
  · replace h := h.2 hc
    refine g_iload_n (i := 1) dX9_goneOn_7 rfl rfl ?_
    exact g_iret dX9_goneOn_8 rfl h
theorem eX9_goneOn {κ : gK} {M : MM} {Q : Int32 → MM → Prop} (o0 : Nat) (l1 : Int32) (l2 : Int32)
    (h : G κ mX9_goneOn 0 [.ref o0, .int l1, .int l2] [] M Q) : Cl κ mX9_goneOn [.ref o0, .int l1, .int l2] M Q := g_entry 0 pl_X9_goneOn (Nat.le_of_ble_eq_true rfl) (L := [.ref o0, .int l1, .int l2]) rfl (g_sub _ (sub_c (Or.inr rfl) (sub_c (Or.inr rfl) (sub_c (Or.inr rfl) sub_n))) h)
theorem dX9_behindCrow_0 : decode cX9_behindCrow 0 = .ok (.iload_n 1, 1) := by decide +kernel
theorem dX9_behindCrow_1 : decode cX9_behindCrow 1 = .ok (.iconst 2, 1) := by decide +kernel
theorem dX9_behindCrow_2 : decode cX9_behindCrow 2 = .ok (.if_icmp .ne 12, 3) := by decide +kernel
theorem dX9_behindCrow_5 : decode cX9_behindCrow 5 = .ok (.iload_n 2, 1) := by decide +kernel
theorem dX9_behindCrow_6 : decode cX9_behindCrow 6 = .ok (.aload_n 0, 1) := by decide +kernel
theorem dX9_behindCrow_7 : decode cX9_behindCrow 7 = .ok (.iload_n 2, 1) := by decide +kernel
theorem dX9_behindCrow_8 : decode cX9_behindCrow 8 = .ok (.iconst 1, 1) := by decide +kernel
theorem dX9_behindCrow_9 : decode cX9_behindCrow 9 = .ok (.invokevirtual 51, 3) := by decide +kernel
theorem dX9_behindCrow_12 : decode cX9_behindCrow 12 = .ok (.ior, 1) := by decide +kernel
theorem dX9_behindCrow_13 : decode cX9_behindCrow 13 = .ok (.ireturn, 1) := by decide +kernel
theorem dX9_behindCrow_14 : decode cX9_behindCrow 14 = .ok (.iload_n 1, 1) := by decide +kernel
theorem dX9_behindCrow_15 : decode cX9_behindCrow 15 = .ok (.iconst 4, 1) := by decide +kernel
theorem dX9_behindCrow_16 : decode cX9_behindCrow 16 = .ok (.if_icmp .ne 11, 3) := by decide +kernel
theorem dX9_behindCrow_19 : decode cX9_behindCrow 19 = .ok (.iload_n 3, 1) := by decide +kernel
theorem dX9_behindCrow_20 : decode cX9_behindCrow 20 = .ok (.iconst 2, 1) := by decide +kernel
theorem dX9_behindCrow_21 : decode cX9_behindCrow 21 = .ok (.irem, 1) := by decide +kernel
theorem dX9_behindCrow_22 : decode cX9_behindCrow 22 = .ok (.ifCond .eq 5, 3) := by decide +kernel
theorem dX9_behindCrow_25 : decode cX9_behindCrow 25 = .ok (.iload_n 2, 1) := by decide +kernel
theorem dX9_behindCrow_26 : decode cX9_behindCrow 26 = .ok (.ireturn, 1) := by decide +kernel
theorem dX9_behindCrow_27 : decode cX9_behindCrow 27 = .ok (.aload_n 0, 1) := by decide +kernel
theorem dX9_behindCrow_28 : decode cX9_behindCrow 28 = .ok (.iload_n 2, 1) := by decide +kernel
theorem dX9_behindCrow_29 : decode cX9_behindCrow 29 = .ok (.aload_n 0, 1) := by decide +kernel
theorem dX9_behindCrow_30 : decode cX9_behindCrow 30 = .ok (.iload_n 1, 1) := by decide +kernel
theorem dX9_behindCrow_31 : decode cX9_behindCrow 31 = .ok (.invokevirtual 55, 3) := by decide +kernel
theorem dX9_behindCrow_34 : decode cX9_behindCrow 34 = .ok (.invokevirtual 51, 3) := by decide +kernel
theorem dX9_behindCrow_37 : decode cX9_behindCrow 37 = .ok (.ireturn, 1) := by decide +kernel
theorem bX9_behindCrow_0 {κ : gK} {M : MM} {Q : Int32 → MM → Prop} (o0 : Nat) (ho0 : twO o0) (l1 : Int32) (l2 : Int32) (l3 : Int32)
    (h : ((l1 = (2 : Int32) → Cl κ mX9_goneOn [.ref o0, .int l2, .int (1 : Int32)] M (fun r1 M1 => Q (l2 ||| r1) M1)) ∧ (¬ l1 = (2 : Int32) → ((l1 = (4 : Int32) → (((irm l3 (2 : Int32)) = 0 → G κ mX9_behindCrow 27 [.ref o0, .int l1, .int l2, .null] [] M Q) ∧ (¬ (irm l3 (2 : Int32)) = 0 → Q l2 M))) ∧ (¬ l1 = (4 : Int32) → G κ mX9_behindCrow 27 [.ref o0, .int l1, .int l2, .null] [] M Q))))) :
    G κ mX9_behindCrow 0 [.ref o0, .int l1, .int l2, .int l3] [] M Q := by
  refine g_iload_n (i := 1) dX9_behindCrow_0 rfl rfl ?_
  refine g_iconst (v := (2 : Int32)) dX9_behindCrow_1 (by decide) ?_
  refine g_icmp_ne (tgt := 14) dX9_behindCrow_2 rfl ⟨fun hc => ?_, fun hc => ?_⟩
  · replace h := h.1 hc
    refine g_iload_n (i := 2) dX9_behindCrow_5 rfl rfl ?_
    refine g_aload_n (i := 0) dX9_behindCrow_6 rfl rfl ?_
    refine g_iload_n (i := 2) dX9_behindCrow_7 rfl rfl ?_
    refine g_iconst (v := (1 : Int32)) dX9_behindCrow_8 (by decide) ?_
    refine gc_RX9_51 rfl (Nat.le_of_ble_eq_true rfl) dX9_behindCrow_9 ho0.1 (Nat.le_of_ble_eq_true rfl) ?_
    refine Cl.mono h (fun r1 M1 h => ?_)
    refine g_ior dX9_behindCrow_12 ?_
    exact g_iret dX9_behindCrow_13 rfl h
  · replace h := h.2 hc
    refine g_iload_n (i := 1) dX9_behindCrow_14 rfl rfl ?_
    refine g_iconst (v := (4 : Int32)) dX9_behindCrow_15 (by decide) ?_
    refine g_icmp_ne (tgt := 27) dX9_behindCrow_16 rfl ⟨fun hc => ?_, fun hc => ?_⟩
    · replace h := h.1 hc
      refine g_iload_n (i := 3) dX9_behindCrow_19 rfl rfl ?_
      refine g_iconst (v := (2 : Int32)) dX9_behindCrow_20 (by decide) ?_
      refine g_irem dX9_behindCrow_21 (by decide) ?_
      refine g_if_eq (tgt := 27) dX9_behindCrow_22 rfl ⟨fun hc => ?_, fun hc => ?_⟩
      · replace h := h.1 hc
        exact g_sub _ (sub_c (Or.inr rfl) (sub_c (Or.inr rfl) (sub_c (Or.inr rfl) (sub_c (Or.inl rfl) sub_n)))) h
      · replace h := h.2 hc
        refine g_iload_n (i := 2) dX9_behindCrow_25 rfl rfl ?_
        exact g_iret dX9_behindCrow_26 rfl h
    · replace h := h.2 hc
      exact g_sub _ (sub_c (Or.inr rfl) (sub_c (Or.inr rfl) (sub_c (Or.inr rfl) (sub_c (Or.inl rfl) sub_n)))) h
theorem bX9_behindCrow_27 {κ : gK} {M : MM} {Q : Int32 → MM → Prop} (o0 : Nat) (ho0 : twO o0) (l1 : Int32) (l2 : Int32)
    (h : Cl κ mX9_strideOf [.ref o0, .int l1] M (fun r1 M1 => Cl κ mX9_goneOn [.ref o0, .int l2, .int r1] M1 (fun r2 M2 => Q r2 M2))) :
    G κ mX9_behindCrow 27 [.ref o0, .int l1, .int l2, .null] [] M Q := by
  refine g_aload_n (i := 0) dX9_behindCrow_27 rfl rfl ?_
  refine g_iload_n (i := 2) dX9_behindCrow_28 rfl rfl ?_
  refine g_aload_n (i := 0) dX9_behindCrow_29 rfl rfl ?_
  refine g_iload_n (i := 1) dX9_behindCrow_30 rfl rfl ?_
  refine gc_RX9_55 rfl (Nat.le_of_ble_eq_true rfl) dX9_behindCrow_31 ho0.1 (Nat.le_of_ble_eq_true rfl) ?_
  refine Cl.mono h (fun r1 M1 h => ?_)
  refine gc_RX9_51 rfl (Nat.le_of_ble_eq_true rfl) dX9_behindCrow_34 ho0.1 (Nat.le_of_ble_eq_true rfl) ?_
  refine Cl.mono h (fun r2 M2 h => ?_)
  exact g_iret dX9_behindCrow_37 rfl h
theorem eX9_behindCrow {κ : gK} {M : MM} {Q : Int32 → MM → Prop} (o0 : Nat) (l1 : Int32) (l2 : Int32) (l3 : Int32)
    (h : G κ mX9_behindCrow 0 [.ref o0, .int l1, .int l2, .int l3] [] M Q) : Cl κ mX9_behindCrow [.ref o0, .int l1, .int l2, .int l3] M Q := g_entry 0 pl_X9_behindCrow (Nat.le_of_ble_eq_true rfl) (L := [.ref o0, .int l1, .int l2, .int l3]) rfl (g_sub _ (sub_c (Or.inr rfl) (sub_c (Or.inr rfl) (sub_c (Or.inr rfl) (sub_c (Or.inr rfl) sub_n)))) h)
theorem dJ6_bitCount_0f7a4_0 : decode cJ6_bitCount_0f7a4 0 = .ok (.iload_n 0, 1) := by decide +kernel
theorem dJ6_bitCount_0f7a4_1 : decode cJ6_bitCount_0f7a4 1 = .ok (.iload_n 0, 1) := by decide +kernel
theorem dJ6_bitCount_0f7a4_2 : decode cJ6_bitCount_0f7a4 2 = .ok (.iconst 1, 1) := by decide +kernel
theorem dJ6_bitCount_0f7a4_3 : decode cJ6_bitCount_0f7a4 3 = .ok (.iushr, 1) := by decide +kernel
theorem dJ6_bitCount_0f7a4_4 : decode cJ6_bitCount_0f7a4 4 = .ok (.ldc_w 265, 3) := by decide +kernel
theorem dJ6_bitCount_0f7a4_7 : decode cJ6_bitCount_0f7a4 7 = .ok (.iand, 1) := by decide +kernel
theorem dJ6_bitCount_0f7a4_8 : decode cJ6_bitCount_0f7a4 8 = .ok (.isub, 1) := by decide +kernel
theorem dJ6_bitCount_0f7a4_9 : decode cJ6_bitCount_0f7a4 9 = .ok (.istore_n 0, 1) := by decide +kernel
theorem dJ6_bitCount_0f7a4_10 : decode cJ6_bitCount_0f7a4 10 = .ok (.iload_n 0, 1) := by decide +kernel
theorem dJ6_bitCount_0f7a4_11 : decode cJ6_bitCount_0f7a4 11 = .ok (.ldc_w 266, 3) := by decide +kernel
theorem dJ6_bitCount_0f7a4_14 : decode cJ6_bitCount_0f7a4 14 = .ok (.iand, 1) := by decide +kernel
theorem dJ6_bitCount_0f7a4_15 : decode cJ6_bitCount_0f7a4 15 = .ok (.iload_n 0, 1) := by decide +kernel
theorem dJ6_bitCount_0f7a4_16 : decode cJ6_bitCount_0f7a4 16 = .ok (.iconst 2, 1) := by decide +kernel
theorem dJ6_bitCount_0f7a4_17 : decode cJ6_bitCount_0f7a4 17 = .ok (.iushr, 1) := by decide +kernel
theorem dJ6_bitCount_0f7a4_18 : decode cJ6_bitCount_0f7a4 18 = .ok (.ldc_w 266, 3) := by decide +kernel
theorem dJ6_bitCount_0f7a4_21 : decode cJ6_bitCount_0f7a4 21 = .ok (.iand, 1) := by decide +kernel
theorem dJ6_bitCount_0f7a4_22 : decode cJ6_bitCount_0f7a4 22 = .ok (.iadd, 1) := by decide +kernel
theorem dJ6_bitCount_0f7a4_23 : decode cJ6_bitCount_0f7a4 23 = .ok (.istore_n 0, 1) := by decide +kernel
theorem dJ6_bitCount_0f7a4_24 : decode cJ6_bitCount_0f7a4 24 = .ok (.iload_n 0, 1) := by decide +kernel
theorem dJ6_bitCount_0f7a4_25 : decode cJ6_bitCount_0f7a4 25 = .ok (.iload_n 0, 1) := by decide +kernel
theorem dJ6_bitCount_0f7a4_26 : decode cJ6_bitCount_0f7a4 26 = .ok (.iconst 4, 1) := by decide +kernel
theorem dJ6_bitCount_0f7a4_27 : decode cJ6_bitCount_0f7a4 27 = .ok (.iushr, 1) := by decide +kernel
theorem dJ6_bitCount_0f7a4_28 : decode cJ6_bitCount_0f7a4 28 = .ok (.iadd, 1) := by decide +kernel
theorem dJ6_bitCount_0f7a4_29 : decode cJ6_bitCount_0f7a4 29 = .ok (.ldc_w 267, 3) := by decide +kernel
theorem dJ6_bitCount_0f7a4_32 : decode cJ6_bitCount_0f7a4 32 = .ok (.iand, 1) := by decide +kernel
theorem dJ6_bitCount_0f7a4_33 : decode cJ6_bitCount_0f7a4 33 = .ok (.istore_n 0, 1) := by decide +kernel
theorem dJ6_bitCount_0f7a4_34 : decode cJ6_bitCount_0f7a4 34 = .ok (.iload_n 0, 1) := by decide +kernel
theorem dJ6_bitCount_0f7a4_35 : decode cJ6_bitCount_0f7a4 35 = .ok (.iload_n 0, 1) := by decide +kernel
theorem dJ6_bitCount_0f7a4_36 : decode cJ6_bitCount_0f7a4 36 = .ok (.bipush 8, 2) := by decide +kernel
theorem dJ6_bitCount_0f7a4_38 : decode cJ6_bitCount_0f7a4 38 = .ok (.iushr, 1) := by decide +kernel
theorem dJ6_bitCount_0f7a4_39 : decode cJ6_bitCount_0f7a4 39 = .ok (.iadd, 1) := by decide +kernel
theorem dJ6_bitCount_0f7a4_40 : decode cJ6_bitCount_0f7a4 40 = .ok (.istore_n 0, 1) := by decide +kernel
theorem dJ6_bitCount_0f7a4_41 : decode cJ6_bitCount_0f7a4 41 = .ok (.iload_n 0, 1) := by decide +kernel
theorem dJ6_bitCount_0f7a4_42 : decode cJ6_bitCount_0f7a4 42 = .ok (.iload_n 0, 1) := by decide +kernel
theorem dJ6_bitCount_0f7a4_43 : decode cJ6_bitCount_0f7a4 43 = .ok (.bipush 16, 2) := by decide +kernel
theorem dJ6_bitCount_0f7a4_45 : decode cJ6_bitCount_0f7a4 45 = .ok (.iushr, 1) := by decide +kernel
theorem dJ6_bitCount_0f7a4_46 : decode cJ6_bitCount_0f7a4 46 = .ok (.iadd, 1) := by decide +kernel
theorem dJ6_bitCount_0f7a4_47 : decode cJ6_bitCount_0f7a4 47 = .ok (.istore_n 0, 1) := by decide +kernel
theorem dJ6_bitCount_0f7a4_48 : decode cJ6_bitCount_0f7a4 48 = .ok (.iload_n 0, 1) := by decide +kernel
theorem dJ6_bitCount_0f7a4_49 : decode cJ6_bitCount_0f7a4 49 = .ok (.bipush 63, 2) := by decide +kernel
theorem dJ6_bitCount_0f7a4_51 : decode cJ6_bitCount_0f7a4 51 = .ok (.iand, 1) := by decide +kernel
theorem dJ6_bitCount_0f7a4_52 : decode cJ6_bitCount_0f7a4 52 = .ok (.ireturn, 1) := by decide +kernel
theorem bJ6_bitCount_0f7a4_0 {κ : gK} {M : MM} {Q : Int32 → MM → Prop} (l0 : Int32)
    (h : ∀ v1 : Int32, v1 = (l0 - ((jush l0 (1 : Int32)) &&& (1431655765 : Int32))) → (∀ v2 : Int32, v2 = ((v1 &&& (858993459 : Int32)) + ((jush v1 (2 : Int32)) &&& (858993459 : Int32))) → (∀ v3 : Int32, v3 = ((v2 + (jush v2 (4 : Int32))) &&& (252645135 : Int32)) → (∀ v4 : Int32, v4 = (v3 + (jush v3 (8 : Int32))) → (∀ v5 : Int32, v5 = (v4 + (jush v4 (16 : Int32))) → (Q (v5 &&& (63 : Int32)) M)))))) :
    G κ mJ6_bitCount_0f7a4 0 [.int l0] [] M Q := by
  refine g_iload_n (i := 0) dJ6_bitCount_0f7a4_0 rfl rfl ?_
  refine g_iload_n (i := 0) dJ6_bitCount_0f7a4_1 rfl rfl ?_
  refine g_iconst (v := (1 : Int32)) dJ6_bitCount_0f7a4_2 (by decide) ?_
  refine g_iushr dJ6_bitCount_0f7a4_3 ?_
  refine g_ldcw dJ6_bitCount_0f7a4_4 wt_421 ?_
  refine g_iand dJ6_bitCount_0f7a4_7 ?_
  refine g_isub dJ6_bitCount_0f7a4_8 ?_
  refine lv_nm (fun v1 hn1 => ?_) (x := (l0 - ((jush l0 (1 : Int32)) &&& (1431655765 : Int32))))
  replace h := h v1 hn1
  refine g_istore_n (i := 0) (L' := [.int v1]) dJ6_bitCount_0f7a4_9 rfl (Nat.le_of_ble_eq_true rfl) rfl rfl ?_
  refine g_iload_n (i := 0) dJ6_bitCount_0f7a4_10 rfl rfl ?_
  refine g_ldcw dJ6_bitCount_0f7a4_11 wt_422 ?_
  refine g_iand dJ6_bitCount_0f7a4_14 ?_
  refine g_iload_n (i := 0) dJ6_bitCount_0f7a4_15 rfl rfl ?_
  refine g_iconst (v := (2 : Int32)) dJ6_bitCount_0f7a4_16 (by decide) ?_
  refine g_iushr dJ6_bitCount_0f7a4_17 ?_
  refine g_ldcw dJ6_bitCount_0f7a4_18 wt_422 ?_
  refine g_iand dJ6_bitCount_0f7a4_21 ?_
  refine g_iadd dJ6_bitCount_0f7a4_22 ?_
  refine lv_nm (fun v2 hn2 => ?_) (x := ((v1 &&& (858993459 : Int32)) + ((jush v1 (2 : Int32)) &&& (858993459 : Int32))))
  replace h := h v2 hn2
  refine g_istore_n (i := 0) (L' := [.int v2]) dJ6_bitCount_0f7a4_23 rfl (Nat.le_of_ble_eq_true rfl) rfl rfl ?_
  refine g_iload_n (i := 0) dJ6_bitCount_0f7a4_24 rfl rfl ?_
  refine g_iload_n (i := 0) dJ6_bitCount_0f7a4_25 rfl rfl ?_
  refine g_iconst (v := (4 : Int32)) dJ6_bitCount_0f7a4_26 (by decide) ?_
  refine g_iushr dJ6_bitCount_0f7a4_27 ?_
  refine g_iadd dJ6_bitCount_0f7a4_28 ?_
  refine g_ldcw dJ6_bitCount_0f7a4_29 wt_423 ?_
  refine g_iand dJ6_bitCount_0f7a4_32 ?_
  refine lv_nm (fun v3 hn3 => ?_) (x := ((v2 + (jush v2 (4 : Int32))) &&& (252645135 : Int32)))
  replace h := h v3 hn3
  refine g_istore_n (i := 0) (L' := [.int v3]) dJ6_bitCount_0f7a4_33 rfl (Nat.le_of_ble_eq_true rfl) rfl rfl ?_
  refine g_iload_n (i := 0) dJ6_bitCount_0f7a4_34 rfl rfl ?_
  refine g_iload_n (i := 0) dJ6_bitCount_0f7a4_35 rfl rfl ?_
  refine g_bipush (v := (8 : Int32)) dJ6_bitCount_0f7a4_36 (by decide) ?_
  refine g_iushr dJ6_bitCount_0f7a4_38 ?_
  refine g_iadd dJ6_bitCount_0f7a4_39 ?_
  refine lv_nm (fun v4 hn4 => ?_) (x := (v3 + (jush v3 (8 : Int32))))
  replace h := h v4 hn4
  refine g_istore_n (i := 0) (L' := [.int v4]) dJ6_bitCount_0f7a4_40 rfl (Nat.le_of_ble_eq_true rfl) rfl rfl ?_
  refine g_iload_n (i := 0) dJ6_bitCount_0f7a4_41 rfl rfl ?_
  refine g_iload_n (i := 0) dJ6_bitCount_0f7a4_42 rfl rfl ?_
  refine g_bipush (v := (16 : Int32)) dJ6_bitCount_0f7a4_43 (by decide) ?_
  refine g_iushr dJ6_bitCount_0f7a4_45 ?_
  refine g_iadd dJ6_bitCount_0f7a4_46 ?_
  refine lv_nm (fun v5 hn5 => ?_) (x := (v4 + (jush v4 (16 : Int32))))
  replace h := h v5 hn5
  refine g_istore_n (i := 0) (L' := [.int v5]) dJ6_bitCount_0f7a4_47 rfl (Nat.le_of_ble_eq_true rfl) rfl rfl ?_
  refine g_iload_n (i := 0) dJ6_bitCount_0f7a4_48 rfl rfl ?_
  refine g_bipush (v := (63 : Int32)) dJ6_bitCount_0f7a4_49 (by decide) ?_
  refine g_iand dJ6_bitCount_0f7a4_51 ?_
  exact g_iret dJ6_bitCount_0f7a4_52 rfl h
theorem eJ6_bitCount_0f7a4 {κ : gK} {M : MM} {Q : Int32 → MM → Prop} (l0 : Int32)
    (h : G κ mJ6_bitCount_0f7a4 0 [.int l0] [] M Q) : Cl κ mJ6_bitCount_0f7a4 [.int l0] M Q := g_entry 0 pl_J6_bitCount_0f7a4 (Nat.le_of_ble_eq_true rfl) (L := [.int l0]) rfl (g_sub _ (sub_c (Or.inr rfl) sub_n) h)
