theorem dX11_feed_0 : decode cX11_feed 0 = .ok (.iload_n 1, 1) := by decide +kernel
theorem dX11_feed_1 : decode cX11_feed 1 = .ok (.i2l, 1) := by decide +kernel
theorem dX11_feed_2 : decode cX11_feed 2 = .ok (.lconst 0, 1) := by decide +kernel
theorem dX11_feed_3 : decode cX11_feed 3 = .ok (.ldc2_w 110, 3) := by decide +kernel
theorem dX11_feed_6 : decode cX11_feed 6 = .ok (.invokestatic 63, 3) := by decide +kernel
theorem dX11_feed_9 : decode cX11_feed 9 = .ok (.ifCond .ne 6, 3) := by decide +kernel
theorem dX11_feed_12 : decode cX11_feed 12 = .ok (.ldc 112, 2) := by decide +kernel
theorem dX11_feed_14 : decode cX11_feed 14 = .ok (.ireturn, 1) := by decide +kernel
theorem dX11_feed_15 : decode cX11_feed 15 = .ok (.aload_n 0, 1) := by decide +kernel
theorem dX11_feed_16 : decode cX11_feed 16 = .ok (.getfield 113, 3) := by decide +kernel
theorem dX11_feed_19 : decode cX11_feed 19 = .ok (.sipush 240, 3) := by decide +kernel
theorem dX11_feed_22 : decode cX11_feed 22 = .ok (.if_icmp .ne 6, 3) := by decide +kernel
theorem dX11_feed_25 : decode cX11_feed 25 = .ok (.ldc 116, 2) := by decide +kernel
theorem dX11_feed_27 : decode cX11_feed 27 = .ok (.ireturn, 1) := by decide +kernel
theorem dX11_feed_28 : decode cX11_feed 28 = .ok (.aload_n 0, 1) := by decide +kernel
theorem dX11_feed_29 : decode cX11_feed 29 = .ok (.getfield 19, 3) := by decide +kernel
theorem dX11_feed_32 : decode cX11_feed 32 = .ok (.aload_n 0, 1) := by decide +kernel
theorem dX11_feed_33 : decode cX11_feed 33 = .ok (.getfield 113, 3) := by decide +kernel
theorem dX11_feed_36 : decode cX11_feed 36 = .ok (.iload_n 1, 1) := by decide +kernel
theorem dX11_feed_37 : decode cX11_feed 37 = .ok (.iastore, 1) := by decide +kernel
theorem dX11_feed_38 : decode cX11_feed 38 = .ok (.aload_n 0, 1) := by decide +kernel
theorem dX11_feed_39 : decode cX11_feed 39 = .ok (.dup, 1) := by decide +kernel
theorem dX11_feed_40 : decode cX11_feed 40 = .ok (.getfield 113, 3) := by decide +kernel
theorem dX11_feed_43 : decode cX11_feed 43 = .ok (.iconst 1, 1) := by decide +kernel
theorem dX11_feed_44 : decode cX11_feed 44 = .ok (.iadd, 1) := by decide +kernel
theorem dX11_feed_45 : decode cX11_feed 45 = .ok (.putfield 113, 3) := by decide +kernel
theorem dX11_feed_48 : decode cX11_feed 48 = .ok (.aload_n 0, 1) := by decide +kernel
theorem dX11_feed_49 : decode cX11_feed 49 = .ok (.getfield 113, 3) := by decide +kernel
theorem dX11_feed_52 : decode cX11_feed 52 = .ok (.ireturn, 1) := by decide +kernel
theorem bX11_feed_0 {κ : gK} {M : MM} {Q : Int32 → MM → Prop} (l1 : Int32)
    (h : Cl κ mX11_in [.long (l1).toInt64, .long (0 : Int64), .long (255 : Int64)] M (fun r1 M1 => ((r1 = 0 → Q (-1000000002 : Int32) M1) ∧ (¬ r1 = 0 → (((M1 119 8) = (240 : Int32) → Q (-1000000004 : Int32) M1) ∧ (¬ (M1 119 8) = (240 : Int32) → (vp_in (M1 119 8) 240) ∧ (∀ M2 : MM, M2 = (pt M1 123 ((M1 119 8)).toNatClampNeg l1) → (∀ M3 : MM, M3 = (pt M2 119 8 ((M2 119 8) + (1 : Int32))) → (Q (M3 119 8) M3))))))))) :
    G κ mX11_feed 0 [.ref 119, .int l1] [] M Q := by
  refine g_iload_n (i := 1) dX11_feed_0 rfl rfl ?_
  refine g_i2l dX11_feed_1 ?_
  refine g_lconst (v := (0 : Int64)) dX11_feed_2 (by decide) ?_
  refine g_ldc2 dX11_feed_3 wt_869 ?_
  refine gc_RX11_63 rfl (Nat.le_of_ble_eq_true rfl) dX11_feed_6 (Nat.le_of_ble_eq_true rfl) ?_
  refine Cl.mono h (fun r1 M1 h => ?_)
  refine g_if_ne (tgt := 15) dX11_feed_9 rfl ⟨fun hc => ?_, fun hc => ?_⟩
  · replace h := h.1 hc
    refine g_ldc dX11_feed_12 wt_873 ?_
    exact g_iret dX11_feed_14 rfl h
  · replace h := h.2 hc
    refine g_aload_n (i := 0) dX11_feed_15 rfl rfl ?_
    refine gf_RX11_113 rfl dX11_feed_16 sh_119 ?_
    refine g_sipush (v := (240 : Int32)) dX11_feed_19 (by decide) ?_
    refine g_icmp_ne (tgt := 28) dX11_feed_22 rfl ⟨fun hc => ?_, fun hc => ?_⟩
    · replace h := h.1 hc
      refine g_ldc dX11_feed_25 wt_874 ?_
      exact g_iret dX11_feed_27 rfl h
    · replace h := h.2 hc
      refine g_aload_n (i := 0) dX11_feed_28 rfl rfl ?_
      refine gf_RX11_19 rfl dX11_feed_29 sh_119 ?_
      refine g_aload_n (i := 0) dX11_feed_32 rfl rfl ?_
      refine gf_RX11_113 rfl dX11_feed_33 sh_119 ?_
      refine g_iload_n (i := 1) dX11_feed_36 rfl rfl ?_
      have hv1 := h.1; replace h := h.2
      refine g_iastP dX11_feed_37 sh_123 hv1 ?_
      refine g_nmM (fun M2 hM2 => ?_); replace h := h M2 hM2
      refine g_aload_n (i := 0) dX11_feed_38 rfl rfl ?_
      refine g_dup dX11_feed_39 rfl ?_
      refine gf_RX11_113 rfl dX11_feed_40 sh_119 ?_
      refine g_iconst (v := (1 : Int32)) dX11_feed_43 (by decide) ?_
      refine g_iadd dX11_feed_44 ?_
      refine gp_RX11_113 rfl dX11_feed_45 sh_119 ?_
      refine g_nmM (fun M3 hM3 => ?_); replace h := h M3 hM3
      refine g_aload_n (i := 0) dX11_feed_48 rfl rfl ?_
      refine gf_RX11_113 rfl dX11_feed_49 sh_119 ?_
      exact g_iret dX11_feed_52 rfl h
theorem eX11_feed {κ : gK} {M : MM} {Q : Int32 → MM → Prop} (l1 : Int32)
    (h : G κ mX11_feed 0 [.ref 119, .int l1] [] M Q) : Cl κ mX11_feed [.ref 119, .int l1] M Q := g_entry 0 pl_X11_feed (Nat.le_of_ble_eq_true rfl) (L := [.ref 119, .int l1]) rfl (g_sub _ (sub_c (Or.inr rfl) (sub_c (Or.inr rfl) sub_n)) h)
theorem dX11_here_0 : decode cX11_here 0 = .ok (.aload_n 0, 1) := by decide +kernel
theorem dX11_here_1 : decode cX11_here 1 = .ok (.getfield 117, 3) := by decide +kernel
theorem dX11_here_4 : decode cX11_here 4 = .ok (.aload_n 0, 1) := by decide +kernel
theorem dX11_here_5 : decode cX11_here 5 = .ok (.getfield 113, 3) := by decide +kernel
theorem dX11_here_8 : decode cX11_here 8 = .ok (.if_icmp .ge 30, 3) := by decide +kernel
theorem dX11_here_11 : decode cX11_here 11 = .ok (.aload_n 0, 1) := by decide +kernel
theorem dX11_here_12 : decode cX11_here 12 = .ok (.getfield 19, 3) := by decide +kernel
theorem dX11_here_15 : decode cX11_here 15 = .ok (.aload_n 0, 1) := by decide +kernel
theorem dX11_here_16 : decode cX11_here 16 = .ok (.getfield 117, 3) := by decide +kernel
theorem dX11_here_19 : decode cX11_here 19 = .ok (.iaload, 1) := by decide +kernel
theorem dX11_here_20 : decode cX11_here 20 = .ok (.bipush 32, 2) := by decide +kernel
theorem dX11_here_22 : decode cX11_here 22 = .ok (.if_icmp .ne 16, 3) := by decide +kernel
theorem dX11_here_25 : decode cX11_here 25 = .ok (.aload_n 0, 1) := by decide +kernel
theorem dX11_here_26 : decode cX11_here 26 = .ok (.dup, 1) := by decide +kernel
theorem dX11_here_27 : decode cX11_here 27 = .ok (.getfield 117, 3) := by decide +kernel
theorem dX11_here_30 : decode cX11_here 30 = .ok (.iconst 1, 1) := by decide +kernel
theorem dX11_here_31 : decode cX11_here 31 = .ok (.iadd, 1) := by decide +kernel
theorem dX11_here_32 : decode cX11_here 32 = .ok (.putfield 117, 3) := by decide +kernel
theorem dX11_here_35 : decode cX11_here 35 = .ok (.goto (-35), 3) := by decide +kernel
theorem dX11_here_38 : decode cX11_here 38 = .ok (.aload_n 0, 1) := by decide +kernel
theorem dX11_here_39 : decode cX11_here 39 = .ok (.getfield 117, 3) := by decide +kernel
theorem dX11_here_42 : decode cX11_here 42 = .ok (.aload_n 0, 1) := by decide +kernel
theorem dX11_here_43 : decode cX11_here 43 = .ok (.getfield 113, 3) := by decide +kernel
theorem dX11_here_46 : decode cX11_here 46 = .ok (.if_icmp .ge 15, 3) := by decide +kernel
theorem dX11_here_49 : decode cX11_here 49 = .ok (.aload_n 0, 1) := by decide +kernel
theorem dX11_here_50 : decode cX11_here 50 = .ok (.getfield 19, 3) := by decide +kernel
theorem dX11_here_53 : decode cX11_here 53 = .ok (.aload_n 0, 1) := by decide +kernel
theorem dX11_here_54 : decode cX11_here 54 = .ok (.getfield 117, 3) := by decide +kernel
theorem dX11_here_57 : decode cX11_here 57 = .ok (.iaload, 1) := by decide +kernel
theorem dX11_here_58 : decode cX11_here 58 = .ok (.goto 4, 3) := by decide +kernel
theorem dX11_here_61 : decode cX11_here 61 = .ok (.iconst (-1), 1) := by decide +kernel
theorem dX11_here_62 : decode cX11_here 62 = .ok (.ireturn, 1) := by decide +kernel
theorem bX11_here_0 {κ : gK} {M : MM} {Q : Int32 → MM → Prop} 
    (h : (((M 119 8) ≤ (M 119 10) → G κ mX11_here 38 [.ref 119] [] M Q) ∧ (¬ (M 119 8) ≤ (M 119 10) → (vp_in (M 119 10) 240) ∧ ((((M 123 ((M 119 10)).toNatClampNeg) = (32 : Int32) → ∀ M1 : MM, M1 = (pt M 119 10 ((M 119 10) + (1 : Int32))) → (G κ mX11_here 0 [.ref 119] [] M1 Q)) ∧ (¬ (M 123 ((M 119 10)).toNatClampNeg) = (32 : Int32) → G κ mX11_here 38 [.ref 119] [] M Q)))))) :
    G κ mX11_here 0 [.ref 119] [] M Q := by
  refine g_aload_n (i := 0) dX11_here_0 rfl rfl ?_
  refine gf_RX11_117 rfl dX11_here_1 sh_119 ?_
  refine g_aload_n (i := 0) dX11_here_4 rfl rfl ?_
  refine gf_RX11_113 rfl dX11_here_5 sh_119 ?_
  refine g_icmp_ge (tgt := 38) dX11_here_8 rfl ⟨fun hc => ?_, fun hc => ?_⟩
  · replace h := h.1 hc
    exact h
  · replace h := h.2 hc
    refine g_aload_n (i := 0) dX11_here_11 rfl rfl ?_
    refine gf_RX11_19 rfl dX11_here_12 sh_119 ?_
    refine g_aload_n (i := 0) dX11_here_15 rfl rfl ?_
    refine gf_RX11_117 rfl dX11_here_16 sh_119 ?_
    have hv1 := h.1; replace h := h.2
    refine g_iald dX11_here_19 sh_123 hv1 ?_
    refine g_bipush (v := (32 : Int32)) dX11_here_20 (by decide) ?_
    refine g_icmp_ne (tgt := 38) dX11_here_22 rfl ⟨fun hc => ?_, fun hc => ?_⟩
    · replace h := h.1 hc
      refine g_aload_n (i := 0) dX11_here_25 rfl rfl ?_
      refine g_dup dX11_here_26 rfl ?_
      refine gf_RX11_117 rfl dX11_here_27 sh_119 ?_
      refine g_iconst (v := (1 : Int32)) dX11_here_30 (by decide) ?_
      refine g_iadd dX11_here_31 ?_
      refine gp_RX11_117 rfl dX11_here_32 sh_119 ?_
      refine g_nmM (fun M1 hM1 => ?_); replace h := h M1 hM1
      refine g_goto (tgt := 0) dX11_here_35 rfl ?_
      exact h
    · replace h := h.2 hc
      exact h
theorem bX11_here_38 {κ : gK} {M : MM} {Q : Int32 → MM → Prop} 
    (h : (((M 119 8) ≤ (M 119 10) → G κ mX11_here 62 [.null] [.int (-1 : Int32)] M Q) ∧ (¬ (M 119 8) ≤ (M 119 10) → (vp_in (M 119 10) 240) ∧ (G κ mX11_here 62 [.null] [.int (M 123 ((M 119 10)).toNatClampNeg)] M Q)))) :
    G κ mX11_here 38 [.ref 119] [] M Q := by
  refine g_aload_n (i := 0) dX11_here_38 rfl rfl ?_
  refine gf_RX11_117 rfl dX11_here_39 sh_119 ?_
  refine g_aload_n (i := 0) dX11_here_42 rfl rfl ?_
  refine gf_RX11_113 rfl dX11_here_43 sh_119 ?_
  refine g_icmp_ge (tgt := 61) dX11_here_46 rfl ⟨fun hc => ?_, fun hc => ?_⟩
  · replace h := h.1 hc
    refine g_iconst (v := (-1 : Int32)) dX11_here_61 (by decide) ?_
    exact g_sub _ (sub_c (Or.inl rfl) sub_n) h
  · replace h := h.2 hc
    refine g_aload_n (i := 0) dX11_here_49 rfl rfl ?_
    refine gf_RX11_19 rfl dX11_here_50 sh_119 ?_
    refine g_aload_n (i := 0) dX11_here_53 rfl rfl ?_
    refine gf_RX11_117 rfl dX11_here_54 sh_119 ?_
    have hv1 := h.1; replace h := h.2
    refine g_iald dX11_here_57 sh_123 hv1 ?_
    refine g_goto (tgt := 62) dX11_here_58 rfl ?_
    exact g_sub _ (sub_c (Or.inl rfl) sub_n) h
theorem bX11_here_62 {κ : gK} {M : MM} {Q : Int32 → MM → Prop} (s0 : Int32)
    (h : Q s0 M) :
    G κ mX11_here 62 [.null] [.int s0] M Q := by
  exact g_iret dX11_here_62 rfl h
theorem eX11_here {κ : gK} {M : MM} {Q : Int32 → MM → Prop} 
    (h : G κ mX11_here 0 [.ref 119] [] M Q) : Cl κ mX11_here [.ref 119] M Q := g_entry 0 pl_X11_here (Nat.le_of_ble_eq_true rfl) (L := [.ref 119]) rfl (g_sub _ (sub_c (Or.inr rfl) sub_n) h)
theorem dX11_faults_0 : decode cX11_faults 0 = .ok (.aload_n 0, 1) := by decide +kernel
theorem dX11_faults_1 : decode cX11_faults 1 = .ok (.getfield 120, 3) := by decide +kernel
theorem dX11_faults_4 : decode cX11_faults 4 = .ok (.ifCond .ne 13, 3) := by decide +kernel
theorem dX11_faults_7 : decode cX11_faults 7 = .ok (.aload_n 0, 1) := by decide +kernel
theorem dX11_faults_8 : decode cX11_faults 8 = .ok (.iload_n 1, 1) := by decide +kernel
theorem dX11_faults_9 : decode cX11_faults 9 = .ok (.putfield 120, 3) := by decide +kernel
theorem dX11_faults_12 : decode cX11_faults 12 = .ok (.aload_n 0, 1) := by decide +kernel
theorem dX11_faults_13 : decode cX11_faults 13 = .ok (.iload_n 2, 1) := by decide +kernel
theorem dX11_faults_14 : decode cX11_faults 14 = .ok (.putfield 22, 3) := by decide +kernel
theorem dX11_faults_17 : decode cX11_faults 17 = .ok (.return_, 1) := by decide +kernel
theorem bX11_faults_0 {κ : gK} {M : MM} {Q : Int32 → MM → Prop} (l1 : Int32) (l2 : Int32)
    (h : (((M 119 11) = 0 → ∀ M1 : MM, M1 = (pt M 119 11 l1) → (∀ M2 : MM, M2 = (pt M1 119 9 l2) → (G κ mX11_faults 17 [.null, .null, .null] [] M2 Q))) ∧ (¬ (M 119 11) = 0 → G κ mX11_faults 17 [.null, .null, .null] [] M Q))) :
    G κ mX11_faults 0 [.ref 119, .int l1, .int l2] [] M Q := by
  refine g_aload_n (i := 0) dX11_faults_0 rfl rfl ?_
  refine gf_RX11_120 rfl dX11_faults_1 sh_119 ?_
  refine g_if_ne (tgt := 17) dX11_faults_4 rfl ⟨fun hc => ?_, fun hc => ?_⟩
  · replace h := h.1 hc
    refine g_aload_n (i := 0) dX11_faults_7 rfl rfl ?_
    refine g_iload_n (i := 1) dX11_faults_8 rfl rfl ?_
    refine gp_RX11_120 rfl dX11_faults_9 sh_119 ?_
    refine g_nmM (fun M1 hM1 => ?_); replace h := h M1 hM1
    refine g_aload_n (i := 0) dX11_faults_12 rfl rfl ?_
    refine g_iload_n (i := 2) dX11_faults_13 rfl rfl ?_
    refine gp_RX11_22 rfl dX11_faults_14 sh_119 ?_
    refine g_nmM (fun M2 hM2 => ?_); replace h := h M2 hM2
    exact g_sub _ (sub_c (Or.inl rfl) (sub_c (Or.inl rfl) (sub_c (Or.inl rfl) sub_n))) h
  · replace h := h.2 hc
    exact g_sub _ (sub_c (Or.inl rfl) (sub_c (Or.inl rfl) (sub_c (Or.inl rfl) sub_n))) h
theorem bX11_faults_17 {κ : gK} {M : MM} {Q : Int32 → MM → Prop} 
    (h : Q 0 M) :
    G κ mX11_faults 17 [.null, .null, .null] [] M Q := by
  exact g_vret dX11_faults_17 rfl h
theorem eX11_faults {κ : gK} {M : MM} {Q : Int32 → MM → Prop} (l1 : Int32) (l2 : Int32)
    (h : G κ mX11_faults 0 [.ref 119, .int l1, .int l2] [] M Q) : Cl κ mX11_faults [.ref 119, .int l1, .int l2] M Q := g_entry 0 pl_X11_faults (Nat.le_of_ble_eq_true rfl) (L := [.ref 119, .int l1, .int l2]) rfl (g_sub _ (sub_c (Or.inr rfl) (sub_c (Or.inr rfl) (sub_c (Or.inr rfl) sub_n))) h)
theorem dX11_number_0 : decode cX11_number 0 = .ok (.aload_n 0, 1) := by decide +kernel
theorem dX11_number_1 : decode cX11_number 1 = .ok (.invokevirtual 123, 3) := by decide +kernel
theorem dX11_number_4 : decode cX11_number 4 = .ok (.istore_n 3, 1) := by decide +kernel
theorem dX11_number_5 : decode cX11_number 5 = .ok (.aload_n 0, 1) := by decide +kernel
theorem dX11_number_6 : decode cX11_number 6 = .ok (.getfield 117, 3) := by decide +kernel
theorem dX11_number_9 : decode cX11_number 9 = .ok (.istore 4, 2) := by decide +kernel
theorem dX11_number_11 : decode cX11_number 11 = .ok (.aload_n 0, 1) := by decide +kernel
theorem dX11_number_12 : decode cX11_number 12 = .ok (.getfield 120, 3) := by decide +kernel
theorem dX11_number_15 : decode cX11_number 15 = .ok (.ifCond .gt 17, 3) := by decide +kernel
theorem dX11_number_18 : decode cX11_number 18 = .ok (.iload_n 3, 1) := by decide +kernel
theorem dX11_number_19 : decode cX11_number 19 = .ok (.i2l, 1) := by decide +kernel
theorem dX11_number_20 : decode cX11_number 20 = .ok (.ldc2_w 126, 3) := by decide +kernel
theorem dX11_number_23 : decode cX11_number 23 = .ok (.ldc2_w 128, 3) := by decide +kernel
theorem dX11_number_26 : decode cX11_number 26 = .ok (.invokestatic 63, 3) := by decide +kernel
theorem dX11_number_29 : decode cX11_number 29 = .ok (.ifCond .ne 12, 3) := by decide +kernel
theorem dX11_number_32 : decode cX11_number 32 = .ok (.aload_n 0, 1) := by decide +kernel
theorem dX11_number_33 : decode cX11_number 33 = .ok (.iconst 1, 1) := by decide +kernel
theorem dX11_number_34 : decode cX11_number 34 = .ok (.iload 4, 2) := by decide +kernel
theorem dX11_number_36 : decode cX11_number 36 = .ok (.invokevirtual 130, 3) := by decide +kernel
theorem dX11_number_39 : decode cX11_number 39 = .ok (.iload_n 1, 1) := by decide +kernel
theorem dX11_number_40 : decode cX11_number 40 = .ok (.ireturn, 1) := by decide +kernel
theorem dX11_number_41 : decode cX11_number 41 = .ok (.iconst 0, 1) := by decide +kernel
theorem dX11_number_42 : decode cX11_number 42 = .ok (.istore 5, 2) := by decide +kernel
theorem dX11_number_44 : decode cX11_number 44 = .ok (.aload_n 0, 1) := by decide +kernel
theorem dX11_number_45 : decode cX11_number 45 = .ok (.getfield 117, 3) := by decide +kernel
theorem dX11_number_48 : decode cX11_number 48 = .ok (.aload_n 0, 1) := by decide +kernel
theorem dX11_number_49 : decode cX11_number 49 = .ok (.getfield 113, 3) := by decide +kernel
theorem dX11_number_52 : decode cX11_number 52 = .ok (.if_icmp .ge 74, 3) := by decide +kernel
theorem dX11_number_55 : decode cX11_number 55 = .ok (.aload_n 0, 1) := by decide +kernel
theorem dX11_number_56 : decode cX11_number 56 = .ok (.getfield 19, 3) := by decide +kernel
theorem dX11_number_59 : decode cX11_number 59 = .ok (.aload_n 0, 1) := by decide +kernel
theorem dX11_number_60 : decode cX11_number 60 = .ok (.getfield 117, 3) := by decide +kernel
theorem dX11_number_63 : decode cX11_number 63 = .ok (.iaload, 1) := by decide +kernel
theorem dX11_number_64 : decode cX11_number 64 = .ok (.i2l, 1) := by decide +kernel
theorem dX11_number_65 : decode cX11_number 65 = .ok (.ldc2_w 126, 3) := by decide +kernel
theorem dX11_number_68 : decode cX11_number 68 = .ok (.ldc2_w 128, 3) := by decide +kernel
theorem dX11_number_71 : decode cX11_number 71 = .ok (.invokestatic 63, 3) := by decide +kernel
theorem dX11_number_74 : decode cX11_number 74 = .ok (.ifCond .eq 52, 3) := by decide +kernel
theorem dX11_number_77 : decode cX11_number 77 = .ok (.aload_n 0, 1) := by decide +kernel
theorem dX11_number_78 : decode cX11_number 78 = .ok (.getfield 117, 3) := by decide +kernel
theorem dX11_number_81 : decode cX11_number 81 = .ok (.iload 4, 2) := by decide +kernel
theorem dX11_number_83 : decode cX11_number 83 = .ok (.isub, 1) := by decide +kernel
theorem dX11_number_84 : decode cX11_number 84 = .ok (.iconst 4, 1) := by decide +kernel
theorem dX11_number_85 : decode cX11_number 85 = .ok (.if_icmp .ge 24, 3) := by decide +kernel
theorem dX11_number_88 : decode cX11_number 88 = .ok (.bipush 10, 2) := by decide +kernel
theorem dX11_number_90 : decode cX11_number 90 = .ok (.iload 5, 2) := by decide +kernel
theorem dX11_number_92 : decode cX11_number 92 = .ok (.imul, 1) := by decide +kernel
theorem dX11_number_93 : decode cX11_number 93 = .ok (.aload_n 0, 1) := by decide +kernel
theorem dX11_number_94 : decode cX11_number 94 = .ok (.getfield 19, 3) := by decide +kernel
theorem dX11_number_97 : decode cX11_number 97 = .ok (.aload_n 0, 1) := by decide +kernel
theorem dX11_number_98 : decode cX11_number 98 = .ok (.getfield 117, 3) := by decide +kernel
theorem dX11_number_101 : decode cX11_number 101 = .ok (.iaload, 1) := by decide +kernel
theorem dX11_number_102 : decode cX11_number 102 = .ok (.iadd, 1) := by decide +kernel
theorem dX11_number_103 : decode cX11_number 103 = .ok (.bipush 48, 2) := by decide +kernel
theorem dX11_number_105 : decode cX11_number 105 = .ok (.isub, 1) := by decide +kernel
theorem dX11_number_106 : decode cX11_number 106 = .ok (.goto 5, 3) := by decide +kernel
theorem dX11_number_109 : decode cX11_number 109 = .ok (.iload 5, 2) := by decide +kernel
theorem dX11_number_111 : decode cX11_number 111 = .ok (.istore 5, 2) := by decide +kernel
theorem dX11_number_113 : decode cX11_number 113 = .ok (.aload_n 0, 1) := by decide +kernel
theorem dX11_number_114 : decode cX11_number 114 = .ok (.dup, 1) := by decide +kernel
theorem dX11_number_115 : decode cX11_number 115 = .ok (.getfield 117, 3) := by decide +kernel
theorem dX11_number_118 : decode cX11_number 118 = .ok (.iconst 1, 1) := by decide +kernel
theorem dX11_number_119 : decode cX11_number 119 = .ok (.iadd, 1) := by decide +kernel
theorem dX11_number_120 : decode cX11_number 120 = .ok (.putfield 117, 3) := by decide +kernel
theorem dX11_number_123 : decode cX11_number 123 = .ok (.goto (-79), 3) := by decide +kernel
theorem dX11_number_126 : decode cX11_number 126 = .ok (.aload_n 0, 1) := by decide +kernel
theorem dX11_number_127 : decode cX11_number 127 = .ok (.getfield 117, 3) := by decide +kernel
theorem dX11_number_130 : decode cX11_number 130 = .ok (.iload 4, 2) := by decide +kernel
theorem dX11_number_132 : decode cX11_number 132 = .ok (.isub, 1) := by decide +kernel
theorem dX11_number_133 : decode cX11_number 133 = .ok (.iconst 3, 1) := by decide +kernel
theorem dX11_number_134 : decode cX11_number 134 = .ok (.if_icmp .gt 16, 3) := by decide +kernel
theorem dX11_number_137 : decode cX11_number 137 = .ok (.iload 5, 2) := by decide +kernel
theorem dX11_number_139 : decode cX11_number 139 = .ok (.i2l, 1) := by decide +kernel
theorem dX11_number_140 : decode cX11_number 140 = .ok (.iload_n 1, 1) := by decide +kernel
theorem dX11_number_141 : decode cX11_number 141 = .ok (.i2l, 1) := by decide +kernel
theorem dX11_number_142 : decode cX11_number 142 = .ok (.iload_n 2, 1) := by decide +kernel
theorem dX11_number_143 : decode cX11_number 143 = .ok (.i2l, 1) := by decide +kernel
theorem dX11_number_144 : decode cX11_number 144 = .ok (.invokestatic 63, 3) := by decide +kernel
theorem dX11_number_147 : decode cX11_number 147 = .ok (.ifCond .ne 10, 3) := by decide +kernel
theorem dX11_number_150 : decode cX11_number 150 = .ok (.aload_n 0, 1) := by decide +kernel
theorem dX11_number_151 : decode cX11_number 151 = .ok (.iconst 2, 1) := by decide +kernel
theorem dX11_number_152 : decode cX11_number 152 = .ok (.iload 4, 2) := by decide +kernel
theorem dX11_number_154 : decode cX11_number 154 = .ok (.invokevirtual 130, 3) := by decide +kernel
theorem dX11_number_157 : decode cX11_number 157 = .ok (.iload 5, 2) := by decide +kernel
theorem dX11_number_159 : decode cX11_number 159 = .ok (.ireturn, 1) := by decide +kernel
theorem bX11_number_0 {κ : gK} {M : MM} {Q : Int32 → MM → Prop} (l1 : Int32) (l2 : Int32)
    (h : Cl κ mX11_here [.ref 119] M (fun r1 M1 => ((0 < (M1 119 11) → G κ mX11_number 32 [.ref 119, .int l1, .null, .null, .int (M1 119 10), .null] [] M1 Q) ∧ (¬ 0 < (M1 119 11) → Cl κ mX11_in [.long (r1).toInt64, .long (48 : Int64), .long (57 : Int64)] M1 (fun r2 M2 => ((r2 = 0 → G κ mX11_number 32 [.ref 119, .int l1, .null, .null, .int (M1 119 10), .null] [] M2 Q) ∧ (¬ r2 = 0 → G κ mX11_number 44 [.ref 119, .int l1, .int l2, .null, .int (M1 119 10), .int (0 : Int32)] [] M2 Q))))))) :
    G κ mX11_number 0 [.ref 119, .int l1, .int l2, .null, .null, .null] [] M Q := by
  refine g_aload_n (i := 0) dX11_number_0 rfl rfl ?_
  refine gc_RX11_123 rfl (Nat.le_of_ble_eq_true rfl) dX11_number_1 sh_119 (Nat.le_of_ble_eq_true rfl) ?_
  refine Cl.mono h (fun r1 M1 h => ?_)
  refine g_istore_n (i := 3) (L' := [.ref 119, .int l1, .int l2, .int r1, .null, .null]) dX11_number_4 rfl (Nat.le_of_ble_eq_true rfl) rfl rfl ?_
  refine g_aload_n (i := 0) dX11_number_5 rfl rfl ?_
  refine gf_RX11_117 rfl dX11_number_6 sh_119 ?_
  refine g_istore (i := 4) (L' := [.ref 119, .int l1, .int l2, .int r1, .int (M1 119 10), .null]) dX11_number_9 (Nat.le_of_ble_eq_true rfl) rfl rfl ?_
  refine g_aload_n (i := 0) dX11_number_11 rfl rfl ?_
  refine gf_RX11_120 rfl dX11_number_12 sh_119 ?_
  refine g_if_gt (tgt := 32) dX11_number_15 rfl ⟨fun hc => ?_, fun hc => ?_⟩
  · replace h := h.1 hc
    exact g_sub _ (sub_c (Or.inr rfl) (sub_c (Or.inr rfl) (sub_c (Or.inl rfl) (sub_c (Or.inl rfl) (sub_c (Or.inr rfl) (sub_c (Or.inr rfl) sub_n)))))) h
  · replace h := h.2 hc
    refine g_iload_n (i := 3) dX11_number_18 rfl rfl ?_
    refine g_i2l dX11_number_19 ?_
    refine g_ldc2 dX11_number_20 wt_899 ?_
    refine g_ldc2 dX11_number_23 wt_900 ?_
    refine gc_RX11_63 rfl (Nat.le_of_ble_eq_true rfl) dX11_number_26 (Nat.le_of_ble_eq_true rfl) ?_
    refine Cl.mono h (fun r2 M2 h => ?_)
    refine g_if_ne (tgt := 41) dX11_number_29 rfl ⟨fun hc => ?_, fun hc => ?_⟩
    · replace h := h.1 hc
      exact g_sub _ (sub_c (Or.inr rfl) (sub_c (Or.inr rfl) (sub_c (Or.inl rfl) (sub_c (Or.inl rfl) (sub_c (Or.inr rfl) (sub_c (Or.inr rfl) sub_n)))))) h
    · replace h := h.2 hc
      refine g_iconst (v := (0 : Int32)) dX11_number_41 (by decide) ?_
      refine g_istore (i := 5) (L' := [.ref 119, .int l1, .int l2, .int r1, .int (M1 119 10), .int (0 : Int32)]) dX11_number_42 (Nat.le_of_ble_eq_true rfl) rfl rfl ?_
      exact g_sub _ (sub_c (Or.inr rfl) (sub_c (Or.inr rfl) (sub_c (Or.inr rfl) (sub_c (Or.inl rfl) (sub_c (Or.inr rfl) (sub_c (Or.inr rfl) sub_n)))))) h
theorem bX11_number_32 {κ : gK} {M : MM} {Q : Int32 → MM → Prop} (l1 : Int32) (l4 : Int32)
    (h : Cl κ mX11_faults [.ref 119, .int (1 : Int32), .int l4] M (fun _ M1 => Q l1 M1)) :
    G κ mX11_number 32 [.ref 119, .int l1, .null, .null, .int l4, .null] [] M Q := by
  refine g_aload_n (i := 0) dX11_number_32 rfl rfl ?_
  refine g_iconst (v := (1 : Int32)) dX11_number_33 (by decide) ?_
  refine g_iload (i := 4) dX11_number_34 rfl ?_
  refine gc_RX11_130 rfl (Nat.le_of_ble_eq_true rfl) dX11_number_36 sh_119 (Nat.le_of_ble_eq_true rfl) ?_
  refine Cl.mono h (fun r1 M1 h => ?_)
  refine g_iload_n (i := 1) dX11_number_39 rfl rfl ?_
  exact g_iret dX11_number_40 rfl h
theorem bX11_number_44 {κ : gK} {M : MM} {Q : Int32 → MM → Prop} (l1 : Int32) (l2 : Int32) (l4 : Int32) (l5 : Int32)
    (h : (((M 119 8) ≤ (M 119 10) → G κ mX11_number 126 [.ref 119, .int l1, .int l2, .null, .int l4, .int l5] [] M Q) ∧ (¬ (M 119 8) ≤ (M 119 10) → (vp_in (M 119 10) 240) ∧ (Cl κ mX11_in [.long ((M 123 ((M 119 10)).toNatClampNeg)).toInt64, .long (48 : Int64), .long (57 : Int64)] M (fun r1 M1 => ((r1 = 0 → G κ mX11_number 126 [.ref 119, .int l1, .int l2, .null, .int l4, .int l5] [] M1 Q) ∧ (¬ r1 = 0 → (((4 : Int32) ≤ ((M1 119 10) - l4) → G κ mX11_number 111 [.ref 119, .int l1, .int l2, .null, .int l4, .null] [.int l5] M1 Q) ∧ (¬ (4 : Int32) ≤ ((M1 119 10) - l4) → (vp_in (M1 119 10) 240) ∧ (G κ mX11_number 111 [.ref 119, .int l1, .int l2, .null, .int l4, .null] [.int ((((10 : Int32) * l5) + (M1 123 ((M1 119 10)).toNatClampNeg)) - (48 : Int32))] M1 Q)))))))))) :
    G κ mX11_number 44 [.ref 119, .int l1, .int l2, .null, .int l4, .int l5] [] M Q := by
  refine g_aload_n (i := 0) dX11_number_44 rfl rfl ?_
  refine gf_RX11_117 rfl dX11_number_45 sh_119 ?_
  refine g_aload_n (i := 0) dX11_number_48 rfl rfl ?_
  refine gf_RX11_113 rfl dX11_number_49 sh_119 ?_
  refine g_icmp_ge (tgt := 126) dX11_number_52 rfl ⟨fun hc => ?_, fun hc => ?_⟩
  · replace h := h.1 hc
    exact h
  · replace h := h.2 hc
    refine g_aload_n (i := 0) dX11_number_55 rfl rfl ?_
    refine gf_RX11_19 rfl dX11_number_56 sh_119 ?_
    refine g_aload_n (i := 0) dX11_number_59 rfl rfl ?_
    refine gf_RX11_117 rfl dX11_number_60 sh_119 ?_
    have hv1 := h.1; replace h := h.2
    refine g_iald dX11_number_63 sh_123 hv1 ?_
    refine g_i2l dX11_number_64 ?_
    refine g_ldc2 dX11_number_65 wt_899 ?_
    refine g_ldc2 dX11_number_68 wt_900 ?_
    refine gc_RX11_63 rfl (Nat.le_of_ble_eq_true rfl) dX11_number_71 (Nat.le_of_ble_eq_true rfl) ?_
    refine Cl.mono h (fun r1 M1 h => ?_)
    refine g_if_eq (tgt := 126) dX11_number_74 rfl ⟨fun hc => ?_, fun hc => ?_⟩
    · replace h := h.1 hc
      exact h
    · replace h := h.2 hc
      refine g_aload_n (i := 0) dX11_number_77 rfl rfl ?_
      refine gf_RX11_117 rfl dX11_number_78 sh_119 ?_
      refine g_iload (i := 4) dX11_number_81 rfl ?_
      refine g_isub dX11_number_83 ?_
      refine g_iconst (v := (4 : Int32)) dX11_number_84 (by decide) ?_
      refine g_icmp_ge (tgt := 109) dX11_number_85 rfl ⟨fun hc => ?_, fun hc => ?_⟩
      · replace h := h.1 hc
        refine g_iload (i := 5) dX11_number_109 rfl ?_
        exact g_sub _ (sub_c (Or.inr rfl) (sub_c (Or.inr rfl) (sub_c (Or.inr rfl) (sub_c (Or.inr rfl) (sub_c (Or.inr rfl) (sub_c (Or.inl rfl) sub_n)))))) h
      · replace h := h.2 hc
        refine g_bipush (v := (10 : Int32)) dX11_number_88 (by decide) ?_
        refine g_iload (i := 5) dX11_number_90 rfl ?_
        refine g_imul dX11_number_92 ?_
        refine g_aload_n (i := 0) dX11_number_93 rfl rfl ?_
        refine gf_RX11_19 rfl dX11_number_94 sh_119 ?_
        refine g_aload_n (i := 0) dX11_number_97 rfl rfl ?_
        refine gf_RX11_117 rfl dX11_number_98 sh_119 ?_
        have hv2 := h.1; replace h := h.2
        refine g_iald dX11_number_101 sh_123 hv2 ?_
        refine g_iadd dX11_number_102 ?_
        refine g_bipush (v := (48 : Int32)) dX11_number_103 (by decide) ?_
        refine g_isub dX11_number_105 ?_
        refine g_goto (tgt := 111) dX11_number_106 rfl ?_
        exact g_sub _ (sub_c (Or.inr rfl) (sub_c (Or.inr rfl) (sub_c (Or.inr rfl) (sub_c (Or.inr rfl) (sub_c (Or.inr rfl) (sub_c (Or.inl rfl) sub_n)))))) h
theorem bX11_number_111 {κ : gK} {M : MM} {Q : Int32 → MM → Prop} (l1 : Int32) (l2 : Int32) (l4 : Int32) (s0 : Int32)
    (h : ∀ M1 : MM, M1 = (pt M 119 10 ((M 119 10) + (1 : Int32))) → (G κ mX11_number 44 [.ref 119, .int l1, .int l2, .null, .int l4, .int s0] [] M1 Q)) :
    G κ mX11_number 111 [.ref 119, .int l1, .int l2, .null, .int l4, .null] [.int s0] M Q := by
  refine g_istore (i := 5) (L' := [.ref 119, .int l1, .int l2, .null, .int l4, .int s0]) dX11_number_111 (Nat.le_of_ble_eq_true rfl) rfl rfl ?_
  refine g_aload_n (i := 0) dX11_number_113 rfl rfl ?_
  refine g_dup dX11_number_114 rfl ?_
  refine gf_RX11_117 rfl dX11_number_115 sh_119 ?_
  refine g_iconst (v := (1 : Int32)) dX11_number_118 (by decide) ?_
  refine g_iadd dX11_number_119 ?_
  refine gp_RX11_117 rfl dX11_number_120 sh_119 ?_
  refine g_nmM (fun M1 hM1 => ?_); replace h := h M1 hM1
  refine g_goto (tgt := 44) dX11_number_123 rfl ?_
  exact h
theorem bX11_number_126 {κ : gK} {M : MM} {Q : Int32 → MM → Prop} (l1 : Int32) (l2 : Int32) (l4 : Int32) (l5 : Int32)
    (h : (((3 : Int32) < ((M 119 10) - l4) → G κ mX11_number 150 [.ref 119, .null, .null, .null, .int l4, .int l5] [] M Q) ∧ (¬ (3 : Int32) < ((M 119 10) - l4) → Cl κ mX11_in [.long (l5).toInt64, .long (l1).toInt64, .long (l2).toInt64] M (fun r1 M1 => ((r1 = 0 → G κ mX11_number 150 [.ref 119, .null, .null, .null, .int l4, .int l5] [] M1 Q) ∧ (¬ r1 = 0 → G κ mX11_number 157 [.null, .null, .null, .null, .null, .int l5] [] M1 Q)))))) :
    G κ mX11_number 126 [.ref 119, .int l1, .int l2, .null, .int l4, .int l5] [] M Q := by
  refine g_aload_n (i := 0) dX11_number_126 rfl rfl ?_
  refine gf_RX11_117 rfl dX11_number_127 sh_119 ?_
  refine g_iload (i := 4) dX11_number_130 rfl ?_
  refine g_isub dX11_number_132 ?_
  refine g_iconst (v := (3 : Int32)) dX11_number_133 (by decide) ?_
  refine g_icmp_gt (tgt := 150) dX11_number_134 rfl ⟨fun hc => ?_, fun hc => ?_⟩
  · replace h := h.1 hc
    exact g_sub _ (sub_c (Or.inr rfl) (sub_c (Or.inl rfl) (sub_c (Or.inl rfl) (sub_c (Or.inr rfl) (sub_c (Or.inr rfl) (sub_c (Or.inr rfl) sub_n)))))) h
  · replace h := h.2 hc
    refine g_iload (i := 5) dX11_number_137 rfl ?_
    refine g_i2l dX11_number_139 ?_
    refine g_iload_n (i := 1) dX11_number_140 rfl rfl ?_
    refine g_i2l dX11_number_141 ?_
    refine g_iload_n (i := 2) dX11_number_142 rfl rfl ?_
    refine g_i2l dX11_number_143 ?_
    refine gc_RX11_63 rfl (Nat.le_of_ble_eq_true rfl) dX11_number_144 (Nat.le_of_ble_eq_true rfl) ?_
    refine Cl.mono h (fun r1 M1 h => ?_)
    refine g_if_ne (tgt := 157) dX11_number_147 rfl ⟨fun hc => ?_, fun hc => ?_⟩
    · replace h := h.1 hc
      exact g_sub _ (sub_c (Or.inr rfl) (sub_c (Or.inl rfl) (sub_c (Or.inl rfl) (sub_c (Or.inr rfl) (sub_c (Or.inr rfl) (sub_c (Or.inr rfl) sub_n)))))) h
    · replace h := h.2 hc
      exact g_sub _ (sub_c (Or.inl rfl) (sub_c (Or.inl rfl) (sub_c (Or.inl rfl) (sub_c (Or.inr rfl) (sub_c (Or.inl rfl) (sub_c (Or.inr rfl) sub_n)))))) h
theorem bX11_number_150 {κ : gK} {M : MM} {Q : Int32 → MM → Prop} (l4 : Int32) (l5 : Int32)
    (h : Cl κ mX11_faults [.ref 119, .int (2 : Int32), .int l4] M (fun _ M1 => G κ mX11_number 157 [.null, .null, .null, .null, .null, .int l5] [] M1 Q)) :
    G κ mX11_number 150 [.ref 119, .null, .null, .null, .int l4, .int l5] [] M Q := by
  refine g_aload_n (i := 0) dX11_number_150 rfl rfl ?_
  refine g_iconst (v := (2 : Int32)) dX11_number_151 (by decide) ?_
  refine g_iload (i := 4) dX11_number_152 rfl ?_
  refine gc_RX11_130 rfl (Nat.le_of_ble_eq_true rfl) dX11_number_154 sh_119 (Nat.le_of_ble_eq_true rfl) ?_
  refine Cl.mono h (fun r1 M1 h => ?_)
  exact g_sub _ (sub_c (Or.inl rfl) (sub_c (Or.inr rfl) (sub_c (Or.inr rfl) (sub_c (Or.inr rfl) (sub_c (Or.inl rfl) (sub_c (Or.inr rfl) sub_n)))))) h
theorem bX11_number_157 {κ : gK} {M : MM} {Q : Int32 → MM → Prop} (l5 : Int32)
    (h : Q l5 M) :
    G κ mX11_number 157 [.null, .null, .null, .null, .null, .int l5] [] M Q := by
  refine g_iload (i := 5) dX11_number_157 rfl ?_
  exact g_iret dX11_number_159 rfl h
theorem eX11_number {κ : gK} {M : MM} {Q : Int32 → MM → Prop} (l1 : Int32) (l2 : Int32)
    (h : G κ mX11_number 0 [.ref 119, .int l1, .int l2, .null, .null, .null] [] M Q) : Cl κ mX11_number [.ref 119, .int l1, .int l2] M Q := g_entry 3 pl_X11_number (Nat.le_of_ble_eq_true rfl) (L := [.ref 119, .int l1, .int l2, .null, .null, .null]) rfl (g_sub _ (sub_c (Or.inr rfl) (sub_c (Or.inr rfl) (sub_c (Or.inr rfl) (sub_c (Or.inr rfl) (sub_c (Or.inr rfl) (sub_c (Or.inr rfl) sub_n)))))) h)
theorem dX11_ends_0 : decode cX11_ends 0 = .ok (.aload_n 0, 1) := by decide +kernel
theorem dX11_ends_1 : decode cX11_ends 1 = .ok (.invokevirtual 123, 3) := by decide +kernel
theorem dX11_ends_4 : decode cX11_ends 4 = .ok (.bipush 59, 2) := by decide +kernel
theorem dX11_ends_6 : decode cX11_ends 6 = .ok (.if_icmp .eq 12, 3) := by decide +kernel
theorem dX11_ends_9 : decode cX11_ends 9 = .ok (.aload_n 0, 1) := by decide +kernel
theorem dX11_ends_10 : decode cX11_ends 10 = .ok (.iconst 1, 1) := by decide +kernel
theorem dX11_ends_11 : decode cX11_ends 11 = .ok (.aload_n 0, 1) := by decide +kernel
theorem dX11_ends_12 : decode cX11_ends 12 = .ok (.getfield 117, 3) := by decide +kernel
theorem dX11_ends_15 : decode cX11_ends 15 = .ok (.invokevirtual 130, 3) := by decide +kernel
theorem dX11_ends_18 : decode cX11_ends 18 = .ok (.aload_n 0, 1) := by decide +kernel
theorem dX11_ends_19 : decode cX11_ends 19 = .ok (.dup, 1) := by decide +kernel
theorem dX11_ends_20 : decode cX11_ends 20 = .ok (.getfield 117, 3) := by decide +kernel
theorem dX11_ends_23 : decode cX11_ends 23 = .ok (.iconst 1, 1) := by decide +kernel
theorem dX11_ends_24 : decode cX11_ends 24 = .ok (.iadd, 1) := by decide +kernel
theorem dX11_ends_25 : decode cX11_ends 25 = .ok (.putfield 117, 3) := by decide +kernel
theorem dX11_ends_28 : decode cX11_ends 28 = .ok (.return_, 1) := by decide +kernel
theorem bX11_ends_0 {κ : gK} {M : MM} {Q : Int32 → MM → Prop} 
    (h : Cl κ mX11_here [.ref 119] M (fun r1 M1 => ((r1 = (59 : Int32) → G κ mX11_ends 18 [.ref 119] [] M1 Q) ∧ (¬ r1 = (59 : Int32) → Cl κ mX11_faults [.ref 119, .int (1 : Int32), .int (M1 119 10)] M1 (fun _ M2 => G κ mX11_ends 18 [.ref 119] [] M2 Q))))) :
    G κ mX11_ends 0 [.ref 119] [] M Q := by
  refine g_aload_n (i := 0) dX11_ends_0 rfl rfl ?_
  refine gc_RX11_123 rfl (Nat.le_of_ble_eq_true rfl) dX11_ends_1 sh_119 (Nat.le_of_ble_eq_true rfl) ?_
  refine Cl.mono h (fun r1 M1 h => ?_)
  refine g_bipush (v := (59 : Int32)) dX11_ends_4 (by decide) ?_
  refine g_icmp_eq (tgt := 18) dX11_ends_6 rfl ⟨fun hc => ?_, fun hc => ?_⟩
  · replace h := h.1 hc
    exact h
  · replace h := h.2 hc
    refine g_aload_n (i := 0) dX11_ends_9 rfl rfl ?_
    refine g_iconst (v := (1 : Int32)) dX11_ends_10 (by decide) ?_
    refine g_aload_n (i := 0) dX11_ends_11 rfl rfl ?_
    refine gf_RX11_117 rfl dX11_ends_12 sh_119 ?_
    refine gc_RX11_130 rfl (Nat.le_of_ble_eq_true rfl) dX11_ends_15 sh_119 (Nat.le_of_ble_eq_true rfl) ?_
    refine Cl.mono h (fun r2 M2 h => ?_)
    exact h
theorem bX11_ends_18 {κ : gK} {M : MM} {Q : Int32 → MM → Prop} 
    (h : ∀ M1 : MM, M1 = (pt M 119 10 ((M 119 10) + (1 : Int32))) → (Q 0 M1)) :
    G κ mX11_ends 18 [.ref 119] [] M Q := by
  refine g_aload_n (i := 0) dX11_ends_18 rfl rfl ?_
  refine g_dup dX11_ends_19 rfl ?_
  refine gf_RX11_117 rfl dX11_ends_20 sh_119 ?_
  refine g_iconst (v := (1 : Int32)) dX11_ends_23 (by decide) ?_
  refine g_iadd dX11_ends_24 ?_
  refine gp_RX11_117 rfl dX11_ends_25 sh_119 ?_
  refine g_nmM (fun M1 hM1 => ?_); replace h := h M1 hM1
  exact g_vret dX11_ends_28 rfl h
theorem eX11_ends {κ : gK} {M : MM} {Q : Int32 → MM → Prop} 
    (h : G κ mX11_ends 0 [.ref 119] [] M Q) : Cl κ mX11_ends [.ref 119] M Q := g_entry 0 pl_X11_ends (Nat.le_of_ble_eq_true rfl) (L := [.ref 119]) rfl (g_sub _ (sub_c (Or.inr rfl) sub_n) h)
theorem dX11_readDawns_0 : decode cX11_readDawns 0 = .ok (.iconst 1, 1) := by decide +kernel
theorem dX11_readDawns_1 : decode cX11_readDawns 1 = .ok (.istore_n 1, 1) := by decide +kernel
theorem dX11_readDawns_2 : decode cX11_readDawns 2 = .ok (.iload_n 1, 1) := by decide +kernel
theorem dX11_readDawns_3 : decode cX11_readDawns 3 = .ok (.ifCond .eq 83, 3) := by decide +kernel
theorem dX11_readDawns_6 : decode cX11_readDawns 6 = .ok (.aload_n 0, 1) := by decide +kernel
theorem dX11_readDawns_7 : decode cX11_readDawns 7 = .ok (.getfield 120, 3) := by decide +kernel
theorem dX11_readDawns_10 : decode cX11_readDawns 10 = .ok (.ifCond .ne 76, 3) := by decide +kernel
theorem dX11_readDawns_13 : decode cX11_readDawns 13 = .ok (.aload_n 0, 1) := by decide +kernel
theorem dX11_readDawns_14 : decode cX11_readDawns 14 = .ok (.iconst 1, 1) := by decide +kernel
theorem dX11_readDawns_15 : decode cX11_readDawns 15 = .ok (.bipush 9, 2) := by decide +kernel
theorem dX11_readDawns_17 : decode cX11_readDawns 17 = .ok (.invokevirtual 134, 3) := by decide +kernel
theorem dX11_readDawns_20 : decode cX11_readDawns 20 = .ok (.istore_n 2, 1) := by decide +kernel
theorem dX11_readDawns_21 : decode cX11_readDawns 21 = .ok (.aload_n 0, 1) := by decide +kernel
theorem dX11_readDawns_22 : decode cX11_readDawns 22 = .ok (.getfield 29, 3) := by decide +kernel
theorem dX11_readDawns_25 : decode cX11_readDawns 25 = .ok (.aload_n 0, 1) := by decide +kernel
theorem dX11_readDawns_26 : decode cX11_readDawns 26 = .ok (.getfield 137, 3) := by decide +kernel
theorem dX11_readDawns_29 : decode cX11_readDawns 29 = .ok (.iload_n 2, 1) := by decide +kernel
theorem dX11_readDawns_30 : decode cX11_readDawns 30 = .ok (.iastore, 1) := by decide +kernel
theorem dX11_readDawns_31 : decode cX11_readDawns 31 = .ok (.aload_n 0, 1) := by decide +kernel
theorem dX11_readDawns_32 : decode cX11_readDawns 32 = .ok (.dup, 1) := by decide +kernel
theorem dX11_readDawns_33 : decode cX11_readDawns 33 = .ok (.getfield 137, 3) := by decide +kernel
theorem dX11_readDawns_36 : decode cX11_readDawns 36 = .ok (.iconst 1, 1) := by decide +kernel
theorem dX11_readDawns_37 : decode cX11_readDawns 37 = .ok (.iadd, 1) := by decide +kernel
theorem dX11_readDawns_38 : decode cX11_readDawns 38 = .ok (.putfield 137, 3) := by decide +kernel
theorem dX11_readDawns_41 : decode cX11_readDawns 41 = .ok (.aload_n 0, 1) := by decide +kernel
theorem dX11_readDawns_42 : decode cX11_readDawns 42 = .ok (.invokevirtual 123, 3) := by decide +kernel
theorem dX11_readDawns_45 : decode cX11_readDawns 45 = .ok (.bipush 44, 2) := by decide +kernel
theorem dX11_readDawns_47 : decode cX11_readDawns 47 = .ok (.if_icmp .ne 16, 3) := by decide +kernel
theorem dX11_readDawns_50 : decode cX11_readDawns 50 = .ok (.aload_n 0, 1) := by decide +kernel
theorem dX11_readDawns_51 : decode cX11_readDawns 51 = .ok (.getfield 137, 3) := by decide +kernel
theorem dX11_readDawns_54 : decode cX11_readDawns 54 = .ok (.bipush 12, 2) := by decide +kernel
theorem dX11_readDawns_56 : decode cX11_readDawns 56 = .ok (.if_icmp .ge 7, 3) := by decide +kernel
theorem dX11_readDawns_59 : decode cX11_readDawns 59 = .ok (.iconst 1, 1) := by decide +kernel
theorem dX11_readDawns_60 : decode cX11_readDawns 60 = .ok (.goto 4, 3) := by decide +kernel
theorem dX11_readDawns_63 : decode cX11_readDawns 63 = .ok (.iconst 0, 1) := by decide +kernel
theorem dX11_readDawns_64 : decode cX11_readDawns 64 = .ok (.istore_n 1, 1) := by decide +kernel
theorem dX11_readDawns_65 : decode cX11_readDawns 65 = .ok (.aload_n 0, 1) := by decide +kernel
theorem dX11_readDawns_66 : decode cX11_readDawns 66 = .ok (.dup, 1) := by decide +kernel
theorem dX11_readDawns_67 : decode cX11_readDawns 67 = .ok (.getfield 117, 3) := by decide +kernel
theorem dX11_readDawns_70 : decode cX11_readDawns 70 = .ok (.iload_n 1, 1) := by decide +kernel
theorem dX11_readDawns_71 : decode cX11_readDawns 71 = .ok (.ifCond .eq 7, 3) := by decide +kernel
theorem dX11_readDawns_74 : decode cX11_readDawns 74 = .ok (.iconst 1, 1) := by decide +kernel
theorem dX11_readDawns_75 : decode cX11_readDawns 75 = .ok (.goto 4, 3) := by decide +kernel
theorem dX11_readDawns_78 : decode cX11_readDawns 78 = .ok (.iconst 0, 1) := by decide +kernel
theorem dX11_readDawns_79 : decode cX11_readDawns 79 = .ok (.iadd, 1) := by decide +kernel
theorem dX11_readDawns_80 : decode cX11_readDawns 80 = .ok (.putfield 117, 3) := by decide +kernel
theorem dX11_readDawns_83 : decode cX11_readDawns 83 = .ok (.goto (-81), 3) := by decide +kernel
theorem dX11_readDawns_86 : decode cX11_readDawns 86 = .ok (.return_, 1) := by decide +kernel
theorem bX11_readDawns_0 {κ : gK} {M : MM} {Q : Int32 → MM → Prop} 
    (h : G κ mX11_readDawns 2 [.ref 119, .int (1 : Int32), .null] [] M Q) :
    G κ mX11_readDawns 0 [.ref 119, .null, .null] [] M Q := by
  refine g_iconst (v := (1 : Int32)) dX11_readDawns_0 (by decide) ?_
  refine g_istore_n (i := 1) (L' := [.ref 119, .int (1 : Int32), .null]) dX11_readDawns_1 rfl (Nat.le_of_ble_eq_true rfl) rfl rfl ?_
  exact h
theorem bX11_readDawns_2 {κ : gK} {M : MM} {Q : Int32 → MM → Prop} (l1 : Int32)
    (h : ((l1 = 0 → G κ mX11_readDawns 86 [.null, .null, .null] [] M Q) ∧ (¬ l1 = 0 → (((M 119 11) = 0 → Cl κ mX11_number [.ref 119, .int (1 : Int32), .int (9 : Int32)] M (fun r1 M1 => (vp_in (M1 119 17) 12) ∧ (∀ M2 : MM, M2 = (pt M1 125 ((M1 119 17)).toNatClampNeg r1) → (∀ M3 : MM, M3 = (pt M2 119 17 ((M2 119 17) + (1 : Int32))) → (Cl κ mX11_here [.ref 119] M3 (fun r4 M4 => ((r4 = (44 : Int32) → (((12 : Int32) ≤ (M4 119 17) → G κ mX11_readDawns 63 [.ref 119, .null, .null] [] M4 Q) ∧ (¬ (12 : Int32) ≤ (M4 119 17) → G κ mX11_readDawns 64 [.ref 119, .null, .null] [.int (1 : Int32)] M4 Q))) ∧ (¬ r4 = (44 : Int32) → G κ mX11_readDawns 63 [.ref 119, .null, .null] [] M4 Q)))))))) ∧ (¬ (M 119 11) = 0 → G κ mX11_readDawns 86 [.null, .null, .null] [] M Q))))) :
    G κ mX11_readDawns 2 [.ref 119, .int l1, .null] [] M Q := by
  refine g_iload_n (i := 1) dX11_readDawns_2 rfl rfl ?_
  refine g_if_eq (tgt := 86) dX11_readDawns_3 rfl ⟨fun hc => ?_, fun hc => ?_⟩
  · replace h := h.1 hc
    exact g_sub _ (sub_c (Or.inl rfl) (sub_c (Or.inl rfl) (sub_c (Or.inr rfl) sub_n))) h
  · replace h := h.2 hc
    refine g_aload_n (i := 0) dX11_readDawns_6 rfl rfl ?_
    refine gf_RX11_120 rfl dX11_readDawns_7 sh_119 ?_
    refine g_if_ne (tgt := 86) dX11_readDawns_10 rfl ⟨fun hc => ?_, fun hc => ?_⟩
    · replace h := h.1 hc
      refine g_aload_n (i := 0) dX11_readDawns_13 rfl rfl ?_
      refine g_iconst (v := (1 : Int32)) dX11_readDawns_14 (by decide) ?_
      refine g_bipush (v := (9 : Int32)) dX11_readDawns_15 (by decide) ?_
      refine gc_RX11_134 rfl (Nat.le_of_ble_eq_true rfl) dX11_readDawns_17 sh_119 (Nat.le_of_ble_eq_true rfl) ?_
      refine Cl.mono h (fun r1 M1 h => ?_)
      refine g_istore_n (i := 2) (L' := [.ref 119, .int l1, .int r1]) dX11_readDawns_20 rfl (Nat.le_of_ble_eq_true rfl) rfl rfl ?_
      refine g_aload_n (i := 0) dX11_readDawns_21 rfl rfl ?_
      refine gf_RX11_29 rfl dX11_readDawns_22 sh_119 ?_
      refine g_aload_n (i := 0) dX11_readDawns_25 rfl rfl ?_
      refine gf_RX11_137 rfl dX11_readDawns_26 sh_119 ?_
      refine g_iload_n (i := 2) dX11_readDawns_29 rfl rfl ?_
      have hv1 := h.1; replace h := h.2
      refine g_iastP dX11_readDawns_30 sh_125 hv1 ?_
      refine g_nmM (fun M2 hM2 => ?_); replace h := h M2 hM2
      refine g_aload_n (i := 0) dX11_readDawns_31 rfl rfl ?_
      refine g_dup dX11_readDawns_32 rfl ?_
      refine gf_RX11_137 rfl dX11_readDawns_33 sh_119 ?_
      refine g_iconst (v := (1 : Int32)) dX11_readDawns_36 (by decide) ?_
      refine g_iadd dX11_readDawns_37 ?_
      refine gp_RX11_137 rfl dX11_readDawns_38 sh_119 ?_
      refine g_nmM (fun M3 hM3 => ?_); replace h := h M3 hM3
      refine g_aload_n (i := 0) dX11_readDawns_41 rfl rfl ?_
      refine gc_RX11_123 rfl (Nat.le_of_ble_eq_true rfl) dX11_readDawns_42 sh_119 (Nat.le_of_ble_eq_true rfl) ?_
      refine Cl.mono h (fun r4 M4 h => ?_)
      refine g_bipush (v := (44 : Int32)) dX11_readDawns_45 (by decide) ?_
      refine g_icmp_ne (tgt := 63) dX11_readDawns_47 rfl ⟨fun hc => ?_, fun hc => ?_⟩
      · replace h := h.1 hc
        refine g_aload_n (i := 0) dX11_readDawns_50 rfl rfl ?_
        refine gf_RX11_137 rfl dX11_readDawns_51 sh_119 ?_
        refine g_bipush (v := (12 : Int32)) dX11_readDawns_54 (by decide) ?_
        refine g_icmp_ge (tgt := 63) dX11_readDawns_56 rfl ⟨fun hc => ?_, fun hc => ?_⟩
        · replace h := h.1 hc
          exact g_sub _ (sub_c (Or.inr rfl) (sub_c (Or.inl rfl) (sub_c (Or.inl rfl) sub_n))) h
        · replace h := h.2 hc
          refine g_iconst (v := (1 : Int32)) dX11_readDawns_59 (by decide) ?_
          refine g_goto (tgt := 64) dX11_readDawns_60 rfl ?_
          exact g_sub _ (sub_c (Or.inr rfl) (sub_c (Or.inl rfl) (sub_c (Or.inl rfl) sub_n))) h
      · replace h := h.2 hc
        exact g_sub _ (sub_c (Or.inr rfl) (sub_c (Or.inl rfl) (sub_c (Or.inl rfl) sub_n))) h
    · replace h := h.2 hc
      exact g_sub _ (sub_c (Or.inl rfl) (sub_c (Or.inl rfl) (sub_c (Or.inr rfl) sub_n))) h
theorem bX11_readDawns_63 {κ : gK} {M : MM} {Q : Int32 → MM → Prop} 
    (h : G κ mX11_readDawns 64 [.ref 119, .null, .null] [.int (0 : Int32)] M Q) :
    G κ mX11_readDawns 63 [.ref 119, .null, .null] [] M Q := by
  refine g_iconst (v := (0 : Int32)) dX11_readDawns_63 (by decide) ?_
  exact h
theorem bX11_readDawns_64 {κ : gK} {M : MM} {Q : Int32 → MM → Prop} (s0 : Int32)
    (h : ((s0 = 0 → G κ mX11_readDawns 79 [.ref 119, .int s0, .null] [.int (0 : Int32), .int (M 119 10), .ref 119] M Q) ∧ (¬ s0 = 0 → G κ mX11_readDawns 79 [.ref 119, .int s0, .null] [.int (1 : Int32), .int (M 119 10), .ref 119] M Q))) :
    G κ mX11_readDawns 64 [.ref 119, .null, .null] [.int s0] M Q := by
  refine g_istore_n (i := 1) (L' := [.ref 119, .int s0, .null]) dX11_readDawns_64 rfl (Nat.le_of_ble_eq_true rfl) rfl rfl ?_
  refine g_aload_n (i := 0) dX11_readDawns_65 rfl rfl ?_
  refine g_dup dX11_readDawns_66 rfl ?_
  refine gf_RX11_117 rfl dX11_readDawns_67 sh_119 ?_
  refine g_iload_n (i := 1) dX11_readDawns_70 rfl rfl ?_
  refine g_if_eq (tgt := 78) dX11_readDawns_71 rfl ⟨fun hc => ?_, fun hc => ?_⟩
  · replace h := h.1 hc
    refine g_iconst (v := (0 : Int32)) dX11_readDawns_78 (by decide) ?_
    exact h
  · replace h := h.2 hc
    refine g_iconst (v := (1 : Int32)) dX11_readDawns_74 (by decide) ?_
    refine g_goto (tgt := 79) dX11_readDawns_75 rfl ?_
    exact h
theorem bX11_readDawns_79 {κ : gK} {M : MM} {Q : Int32 → MM → Prop} (l1 : Int32) (s0 : Int32) (s1 : Int32)
    (h : ∀ M1 : MM, M1 = (pt M 119 10 (s1 + s0)) → (G κ mX11_readDawns 2 [.ref 119, .int l1, .null] [] M1 Q)) :
    G κ mX11_readDawns 79 [.ref 119, .int l1, .null] [.int s0, .int s1, .ref 119] M Q := by
  refine g_iadd dX11_readDawns_79 ?_
  refine gp_RX11_117 rfl dX11_readDawns_80 sh_119 ?_
  refine g_nmM (fun M1 hM1 => ?_); replace h := h M1 hM1
  refine g_goto (tgt := 2) dX11_readDawns_83 rfl ?_
  exact h
theorem bX11_readDawns_86 {κ : gK} {M : MM} {Q : Int32 → MM → Prop} 
    (h : Q 0 M) :
    G κ mX11_readDawns 86 [.null, .null, .null] [] M Q := by
  exact g_vret dX11_readDawns_86 rfl h
theorem eX11_readDawns {κ : gK} {M : MM} {Q : Int32 → MM → Prop} 
    (h : G κ mX11_readDawns 0 [.ref 119, .null, .null] [] M Q) : Cl κ mX11_readDawns [.ref 119] M Q := g_entry 2 pl_X11_readDawns (Nat.le_of_ble_eq_true rfl) (L := [.ref 119, .null, .null]) rfl (g_sub _ (sub_c (Or.inr rfl) (sub_c (Or.inr rfl) (sub_c (Or.inr rfl) sub_n))) h)
theorem dX11_readPerson_0 : decode cX11_readPerson 0 = .ok (.iconst 3, 1) := by decide +kernel
theorem dX11_readPerson_1 : decode cX11_readPerson 1 = .ok (.aload_n 0, 1) := by decide +kernel
theorem dX11_readPerson_2 : decode cX11_readPerson 2 = .ok (.getfield 140, 3) := by decide +kernel
theorem dX11_readPerson_5 : decode cX11_readPerson 5 = .ok (.imul, 1) := by decide +kernel
theorem dX11_readPerson_6 : decode cX11_readPerson 6 = .ok (.istore_n 1, 1) := by decide +kernel
theorem dX11_readPerson_7 : decode cX11_readPerson 7 = .ok (.aload_n 0, 1) := by decide +kernel
theorem dX11_readPerson_8 : decode cX11_readPerson 8 = .ok (.getfield 26, 3) := by decide +kernel
theorem dX11_readPerson_11 : decode cX11_readPerson 11 = .ok (.iload_n 1, 1) := by decide +kernel
theorem dX11_readPerson_12 : decode cX11_readPerson 12 = .ok (.aload_n 0, 1) := by decide +kernel
theorem dX11_readPerson_13 : decode cX11_readPerson 13 = .ok (.iconst 0, 1) := by decide +kernel
theorem dX11_readPerson_14 : decode cX11_readPerson 14 = .ok (.iconst 4, 1) := by decide +kernel
theorem dX11_readPerson_15 : decode cX11_readPerson 15 = .ok (.invokevirtual 134, 3) := by decide +kernel
theorem dX11_readPerson_18 : decode cX11_readPerson 18 = .ok (.iastore, 1) := by decide +kernel
theorem dX11_readPerson_19 : decode cX11_readPerson 19 = .ok (.aload_n 0, 1) := by decide +kernel
theorem dX11_readPerson_20 : decode cX11_readPerson 20 = .ok (.getfield 26, 3) := by decide +kernel
theorem dX11_readPerson_23 : decode cX11_readPerson 23 = .ok (.iload_n 1, 1) := by decide +kernel
theorem dX11_readPerson_24 : decode cX11_readPerson 24 = .ok (.iconst 1, 1) := by decide +kernel
theorem dX11_readPerson_25 : decode cX11_readPerson 25 = .ok (.iadd, 1) := by decide +kernel
theorem dX11_readPerson_26 : decode cX11_readPerson 26 = .ok (.aload_n 0, 1) := by decide +kernel
theorem dX11_readPerson_27 : decode cX11_readPerson 27 = .ok (.iconst 0, 1) := by decide +kernel
theorem dX11_readPerson_28 : decode cX11_readPerson 28 = .ok (.aload_n 0, 1) := by decide +kernel
theorem dX11_readPerson_29 : decode cX11_readPerson 29 = .ok (.getfield 143, 3) := by decide +kernel
theorem dX11_readPerson_32 : decode cX11_readPerson 32 = .ok (.iconst 1, 1) := by decide +kernel
theorem dX11_readPerson_33 : decode cX11_readPerson 33 = .ok (.isub, 1) := by decide +kernel
theorem dX11_readPerson_34 : decode cX11_readPerson 34 = .ok (.invokevirtual 134, 3) := by decide +kernel
theorem dX11_readPerson_37 : decode cX11_readPerson 37 = .ok (.iastore, 1) := by decide +kernel
theorem dX11_readPerson_38 : decode cX11_readPerson 38 = .ok (.aload_n 0, 1) := by decide +kernel
theorem dX11_readPerson_39 : decode cX11_readPerson 39 = .ok (.getfield 26, 3) := by decide +kernel
theorem dX11_readPerson_42 : decode cX11_readPerson 42 = .ok (.iload_n 1, 1) := by decide +kernel
theorem dX11_readPerson_43 : decode cX11_readPerson 43 = .ok (.iconst 2, 1) := by decide +kernel
theorem dX11_readPerson_44 : decode cX11_readPerson 44 = .ok (.iadd, 1) := by decide +kernel
theorem dX11_readPerson_45 : decode cX11_readPerson 45 = .ok (.aload_n 0, 1) := by decide +kernel
theorem dX11_readPerson_46 : decode cX11_readPerson 46 = .ok (.iconst 0, 1) := by decide +kernel
theorem dX11_readPerson_47 : decode cX11_readPerson 47 = .ok (.bipush 9, 2) := by decide +kernel
theorem dX11_readPerson_49 : decode cX11_readPerson 49 = .ok (.invokevirtual 134, 3) := by decide +kernel
theorem dX11_readPerson_52 : decode cX11_readPerson 52 = .ok (.iastore, 1) := by decide +kernel
theorem dX11_readPerson_53 : decode cX11_readPerson 53 = .ok (.aload_n 0, 1) := by decide +kernel
theorem dX11_readPerson_54 : decode cX11_readPerson 54 = .ok (.dup, 1) := by decide +kernel
theorem dX11_readPerson_55 : decode cX11_readPerson 55 = .ok (.getfield 140, 3) := by decide +kernel
theorem dX11_readPerson_58 : decode cX11_readPerson 58 = .ok (.iconst 1, 1) := by decide +kernel
theorem dX11_readPerson_59 : decode cX11_readPerson 59 = .ok (.iadd, 1) := by decide +kernel
theorem dX11_readPerson_60 : decode cX11_readPerson 60 = .ok (.putfield 140, 3) := by decide +kernel
theorem dX11_readPerson_63 : decode cX11_readPerson 63 = .ok (.return_, 1) := by decide +kernel
theorem bX11_readPerson_0 {κ : gK} {M : MM} {Q : Int32 → MM → Prop} 
    (h : ∀ v1 : Int32, v1 = ((3 : Int32) * (M 119 14)) → (Cl κ mX11_number [.ref 119, .int (0 : Int32), .int (4 : Int32)] M (fun r2 M2 => (vp_in v1 24) ∧ (∀ M3 : MM, M3 = (pt M2 124 (v1).toNatClampNeg r2) → (Cl κ mX11_number [.ref 119, .int (0 : Int32), .int ((M3 119 12) - (1 : Int32))] M3 (fun r4 M4 => (vp_in (v1 + (1 : Int32)) 24) ∧ (∀ M5 : MM, M5 = (pt M4 124 ((v1 + (1 : Int32))).toNatClampNeg r4) → (Cl κ mX11_number [.ref 119, .int (0 : Int32), .int (9 : Int32)] M5 (fun r6 M6 => (vp_in (v1 + (2 : Int32)) 24) ∧ (∀ M7 : MM, M7 = (pt M6 124 ((v1 + (2 : Int32))).toNatClampNeg r6) → (∀ M8 : MM, M8 = (pt M7 119 14 ((M7 119 14) + (1 : Int32))) → (Q 0 M8)))))))))))) :
    G κ mX11_readPerson 0 [.ref 119, .null] [] M Q := by
  refine g_iconst (v := (3 : Int32)) dX11_readPerson_0 (by decide) ?_
  refine g_aload_n (i := 0) dX11_readPerson_1 rfl rfl ?_
  refine gf_RX11_140 rfl dX11_readPerson_2 sh_119 ?_
  refine g_imul dX11_readPerson_5 ?_
  refine lv_nm (fun v1 hn1 => ?_) (x := ((3 : Int32) * (M 119 14)))
  replace h := h v1 hn1
  refine g_istore_n (i := 1) (L' := [.ref 119, .int v1]) dX11_readPerson_6 rfl (Nat.le_of_ble_eq_true rfl) rfl rfl ?_
  refine g_aload_n (i := 0) dX11_readPerson_7 rfl rfl ?_
  refine gf_RX11_26 rfl dX11_readPerson_8 sh_119 ?_
  refine g_iload_n (i := 1) dX11_readPerson_11 rfl rfl ?_
  refine g_aload_n (i := 0) dX11_readPerson_12 rfl rfl ?_
  refine g_iconst (v := (0 : Int32)) dX11_readPerson_13 (by decide) ?_
  refine g_iconst (v := (4 : Int32)) dX11_readPerson_14 (by decide) ?_
  refine gc_RX11_134 rfl (Nat.le_of_ble_eq_true rfl) dX11_readPerson_15 sh_119 (Nat.le_of_ble_eq_true rfl) ?_
  refine Cl.mono h (fun r2 M2 h => ?_)
  have hv1 := h.1; replace h := h.2
  refine g_iastP dX11_readPerson_18 sh_124 hv1 ?_
  refine g_nmM (fun M3 hM3 => ?_); replace h := h M3 hM3
  refine g_aload_n (i := 0) dX11_readPerson_19 rfl rfl ?_
  refine gf_RX11_26 rfl dX11_readPerson_20 sh_119 ?_
  refine g_iload_n (i := 1) dX11_readPerson_23 rfl rfl ?_
  refine g_iconst (v := (1 : Int32)) dX11_readPerson_24 (by decide) ?_
  refine g_iadd dX11_readPerson_25 ?_
  refine g_aload_n (i := 0) dX11_readPerson_26 rfl rfl ?_
  refine g_iconst (v := (0 : Int32)) dX11_readPerson_27 (by decide) ?_
  refine g_aload_n (i := 0) dX11_readPerson_28 rfl rfl ?_
  refine gf_RX11_143 rfl dX11_readPerson_29 sh_119 ?_
  refine g_iconst (v := (1 : Int32)) dX11_readPerson_32 (by decide) ?_
  refine g_isub dX11_readPerson_33 ?_
  refine gc_RX11_134 rfl (Nat.le_of_ble_eq_true rfl) dX11_readPerson_34 sh_119 (Nat.le_of_ble_eq_true rfl) ?_
  refine Cl.mono h (fun r4 M4 h => ?_)
  have hv2 := h.1; replace h := h.2
  refine g_iastP dX11_readPerson_37 sh_124 hv2 ?_
  refine g_nmM (fun M5 hM5 => ?_); replace h := h M5 hM5
  refine g_aload_n (i := 0) dX11_readPerson_38 rfl rfl ?_
  refine gf_RX11_26 rfl dX11_readPerson_39 sh_119 ?_
  refine g_iload_n (i := 1) dX11_readPerson_42 rfl rfl ?_
  refine g_iconst (v := (2 : Int32)) dX11_readPerson_43 (by decide) ?_
  refine g_iadd dX11_readPerson_44 ?_
  refine g_aload_n (i := 0) dX11_readPerson_45 rfl rfl ?_
  refine g_iconst (v := (0 : Int32)) dX11_readPerson_46 (by decide) ?_
  refine g_bipush (v := (9 : Int32)) dX11_readPerson_47 (by decide) ?_
  refine gc_RX11_134 rfl (Nat.le_of_ble_eq_true rfl) dX11_readPerson_49 sh_119 (Nat.le_of_ble_eq_true rfl) ?_
  refine Cl.mono h (fun r6 M6 h => ?_)
  have hv3 := h.1; replace h := h.2
  refine g_iastP dX11_readPerson_52 sh_124 hv3 ?_
  refine g_nmM (fun M7 hM7 => ?_); replace h := h M7 hM7
  refine g_aload_n (i := 0) dX11_readPerson_53 rfl rfl ?_
  refine g_dup dX11_readPerson_54 rfl ?_
  refine gf_RX11_140 rfl dX11_readPerson_55 sh_119 ?_
  refine g_iconst (v := (1 : Int32)) dX11_readPerson_58 (by decide) ?_
  refine g_iadd dX11_readPerson_59 ?_
  refine gp_RX11_140 rfl dX11_readPerson_60 sh_119 ?_
  refine g_nmM (fun M8 hM8 => ?_); replace h := h M8 hM8
  exact g_vret dX11_readPerson_63 rfl h
theorem eX11_readPerson {κ : gK} {M : MM} {Q : Int32 → MM → Prop} 
    (h : G κ mX11_readPerson 0 [.ref 119, .null] [] M Q) : Cl κ mX11_readPerson [.ref 119] M Q := g_entry 1 pl_X11_readPerson (Nat.le_of_ble_eq_true rfl) (L := [.ref 119, .null]) rfl (g_sub _ (sub_c (Or.inr rfl) (sub_c (Or.inr rfl) sub_n)) h)
theorem dX11_readClause_0 : decode cX11_readClause 0 = .ok (.aload_n 0, 1) := by decide +kernel
theorem dX11_readClause_1 : decode cX11_readClause 1 = .ok (.invokevirtual 123, 3) := by decide +kernel
theorem dX11_readClause_4 : decode cX11_readClause 4 = .ok (.istore_n 2, 1) := by decide +kernel
theorem dX11_readClause_5 : decode cX11_readClause 5 = .ok (.aload_n 0, 1) := by decide +kernel
theorem dX11_readClause_6 : decode cX11_readClause 6 = .ok (.getfield 117, 3) := by decide +kernel
theorem dX11_readClause_9 : decode cX11_readClause 9 = .ok (.istore_n 3, 1) := by decide +kernel
theorem dX11_readClause_10 : decode cX11_readClause 10 = .ok (.iload_n 2, 1) := by decide +kernel
theorem dX11_readClause_11 : decode cX11_readClause 11 = .ok (.bipush 110, 2) := by decide +kernel
theorem dX11_readClause_13 : decode cX11_readClause 13 = .ok (.if_icmp .eq 19, 3) := by decide +kernel
theorem dX11_readClause_16 : decode cX11_readClause 16 = .ok (.iload_n 1, 1) := by decide +kernel
theorem dX11_readClause_17 : decode cX11_readClause 17 = .ok (.ifCond .ne 19, 3) := by decide +kernel
theorem dX11_readClause_20 : decode cX11_readClause 20 = .ok (.iload_n 2, 1) := by decide +kernel
theorem dX11_readClause_21 : decode cX11_readClause 21 = .ok (.bipush 112, 2) := by decide +kernel
theorem dX11_readClause_23 : decode cX11_readClause 23 = .ok (.if_icmp .eq 9, 3) := by decide +kernel
theorem dX11_readClause_26 : decode cX11_readClause 26 = .ok (.iload_n 2, 1) := by decide +kernel
theorem dX11_readClause_27 : decode cX11_readClause 27 = .ok (.bipush 109, 2) := by decide +kernel
theorem dX11_readClause_29 : decode cX11_readClause 29 = .ok (.if_icmp .ne 7, 3) := by decide +kernel
theorem dX11_readClause_32 : decode cX11_readClause 32 = .ok (.iconst 1, 1) := by decide +kernel
theorem dX11_readClause_33 : decode cX11_readClause 33 = .ok (.goto 4, 3) := by decide +kernel
theorem dX11_readClause_36 : decode cX11_readClause 36 = .ok (.iconst 0, 1) := by decide +kernel
theorem dX11_readClause_37 : decode cX11_readClause 37 = .ok (.istore 4, 2) := by decide +kernel
theorem dX11_readClause_39 : decode cX11_readClause 39 = .ok (.iload 4, 2) := by decide +kernel
theorem dX11_readClause_41 : decode cX11_readClause 41 = .ok (.ifCond .ne 10, 3) := by decide +kernel
theorem dX11_readClause_44 : decode cX11_readClause 44 = .ok (.aload_n 0, 1) := by decide +kernel
theorem dX11_readClause_45 : decode cX11_readClause 45 = .ok (.iconst 1, 1) := by decide +kernel
theorem dX11_readClause_46 : decode cX11_readClause 46 = .ok (.iload_n 3, 1) := by decide +kernel
theorem dX11_readClause_47 : decode cX11_readClause 47 = .ok (.invokevirtual 130, 3) := by decide +kernel
theorem dX11_readClause_50 : decode cX11_readClause 50 = .ok (.return_, 1) := by decide +kernel
theorem dX11_readClause_51 : decode cX11_readClause 51 = .ok (.iload_n 2, 1) := by decide +kernel
theorem dX11_readClause_52 : decode cX11_readClause 52 = .ok (.bipush 110, 2) := by decide +kernel
theorem dX11_readClause_54 : decode cX11_readClause 54 = .ok (.if_icmp .ne 7, 3) := by decide +kernel
theorem dX11_readClause_57 : decode cX11_readClause 57 = .ok (.iload_n 1, 1) := by decide +kernel
theorem dX11_readClause_58 : decode cX11_readClause 58 = .ok (.ifCond .eq 31, 3) := by decide +kernel
theorem dX11_readClause_61 : decode cX11_readClause 61 = .ok (.iload_n 2, 1) := by decide +kernel
theorem dX11_readClause_62 : decode cX11_readClause 62 = .ok (.bipush 109, 2) := by decide +kernel
theorem dX11_readClause_64 : decode cX11_readClause 64 = .ok (.if_icmp .ne 10, 3) := by decide +kernel
theorem dX11_readClause_67 : decode cX11_readClause 67 = .ok (.aload_n 0, 1) := by decide +kernel
theorem dX11_readClause_68 : decode cX11_readClause 68 = .ok (.getfield 137, 3) := by decide +kernel
theorem dX11_readClause_71 : decode cX11_readClause 71 = .ok (.ifCond .gt 18, 3) := by decide +kernel
theorem dX11_readClause_74 : decode cX11_readClause 74 = .ok (.iload_n 2, 1) := by decide +kernel
theorem dX11_readClause_75 : decode cX11_readClause 75 = .ok (.bipush 112, 2) := by decide +kernel
theorem dX11_readClause_77 : decode cX11_readClause 77 = .ok (.if_icmp .ne 19, 3) := by decide +kernel
theorem dX11_readClause_80 : decode cX11_readClause 80 = .ok (.aload_n 0, 1) := by decide +kernel
theorem dX11_readClause_81 : decode cX11_readClause 81 = .ok (.getfield 140, 3) := by decide +kernel
theorem dX11_readClause_84 : decode cX11_readClause 84 = .ok (.bipush 8, 2) := by decide +kernel
theorem dX11_readClause_86 : decode cX11_readClause 86 = .ok (.if_icmp .ne 10, 3) := by decide +kernel
theorem dX11_readClause_89 : decode cX11_readClause 89 = .ok (.aload_n 0, 1) := by decide +kernel
theorem dX11_readClause_90 : decode cX11_readClause 90 = .ok (.iconst 3, 1) := by decide +kernel
theorem dX11_readClause_91 : decode cX11_readClause 91 = .ok (.iload_n 3, 1) := by decide +kernel
theorem dX11_readClause_92 : decode cX11_readClause 92 = .ok (.invokevirtual 130, 3) := by decide +kernel
theorem dX11_readClause_95 : decode cX11_readClause 95 = .ok (.return_, 1) := by decide +kernel
theorem dX11_readClause_96 : decode cX11_readClause 96 = .ok (.aload_n 0, 1) := by decide +kernel
theorem dX11_readClause_97 : decode cX11_readClause 97 = .ok (.dup, 1) := by decide +kernel
theorem dX11_readClause_98 : decode cX11_readClause 98 = .ok (.getfield 117, 3) := by decide +kernel
theorem dX11_readClause_101 : decode cX11_readClause 101 = .ok (.iconst 1, 1) := by decide +kernel
theorem dX11_readClause_102 : decode cX11_readClause 102 = .ok (.iadd, 1) := by decide +kernel
theorem dX11_readClause_103 : decode cX11_readClause 103 = .ok (.putfield 117, 3) := by decide +kernel
theorem dX11_readClause_106 : decode cX11_readClause 106 = .ok (.iload_n 2, 1) := by decide +kernel
theorem dX11_readClause_107 : decode cX11_readClause 107 = .ok (.bipush 110, 2) := by decide +kernel
theorem dX11_readClause_109 : decode cX11_readClause 109 = .ok (.if_icmp .ne 32, 3) := by decide +kernel
theorem dX11_readClause_112 : decode cX11_readClause 112 = .ok (.aload_n 0, 1) := by decide +kernel
theorem dX11_readClause_113 : decode cX11_readClause 113 = .ok (.aload_n 0, 1) := by decide +kernel
theorem dX11_readClause_114 : decode cX11_readClause 114 = .ok (.iconst 2, 1) := by decide +kernel
theorem dX11_readClause_115 : decode cX11_readClause 115 = .ok (.bipush 9, 2) := by decide +kernel
theorem dX11_readClause_117 : decode cX11_readClause 117 = .ok (.invokevirtual 134, 3) := by decide +kernel
theorem dX11_readClause_120 : decode cX11_readClause 120 = .ok (.putfield 143, 3) := by decide +kernel
theorem dX11_readClause_123 : decode cX11_readClause 123 = .ok (.aload_n 0, 1) := by decide +kernel
theorem dX11_readClause_124 : decode cX11_readClause 124 = .ok (.aload_n 0, 1) := by decide +kernel
theorem dX11_readClause_125 : decode cX11_readClause 125 = .ok (.iconst 0, 1) := by decide +kernel
theorem dX11_readClause_126 : decode cX11_readClause 126 = .ok (.aload_n 0, 1) := by decide +kernel
theorem dX11_readClause_127 : decode cX11_readClause 127 = .ok (.getfield 143, 3) := by decide +kernel
theorem dX11_readClause_130 : decode cX11_readClause 130 = .ok (.iconst 1, 1) := by decide +kernel
theorem dX11_readClause_131 : decode cX11_readClause 131 = .ok (.isub, 1) := by decide +kernel
theorem dX11_readClause_132 : decode cX11_readClause 132 = .ok (.invokevirtual 134, 3) := by decide +kernel
theorem dX11_readClause_135 : decode cX11_readClause 135 = .ok (.putfield 146, 3) := by decide +kernel
theorem dX11_readClause_138 : decode cX11_readClause 138 = .ok (.goto 20, 3) := by decide +kernel
theorem dX11_readClause_141 : decode cX11_readClause 141 = .ok (.iload_n 2, 1) := by decide +kernel
theorem dX11_readClause_142 : decode cX11_readClause 142 = .ok (.bipush 112, 2) := by decide +kernel
theorem dX11_readClause_144 : decode cX11_readClause 144 = .ok (.if_icmp .ne 10, 3) := by decide +kernel
theorem dX11_readClause_147 : decode cX11_readClause 147 = .ok (.aload_n 0, 1) := by decide +kernel
theorem dX11_readClause_148 : decode cX11_readClause 148 = .ok (.invokevirtual 149, 3) := by decide +kernel
theorem dX11_readClause_151 : decode cX11_readClause 151 = .ok (.goto 7, 3) := by decide +kernel
theorem dX11_readClause_154 : decode cX11_readClause 154 = .ok (.aload_n 0, 1) := by decide +kernel
theorem dX11_readClause_155 : decode cX11_readClause 155 = .ok (.invokevirtual 152, 3) := by decide +kernel
theorem dX11_readClause_158 : decode cX11_readClause 158 = .ok (.aload_n 0, 1) := by decide +kernel
theorem dX11_readClause_159 : decode cX11_readClause 159 = .ok (.invokevirtual 154, 3) := by decide +kernel
theorem dX11_readClause_162 : decode cX11_readClause 162 = .ok (.return_, 1) := by decide +kernel
theorem bX11_readClause_0 {κ : gK} {M : MM} {Q : Int32 → MM → Prop} (l1 : Int32)
    (h : Cl κ mX11_here [.ref 119] M (fun r1 M1 => ((r1 = (110 : Int32) → G κ mX11_readClause 32 [.ref 119, .int l1, .int r1, .int (M1 119 10), .null] [] M1 Q) ∧ (¬ r1 = (110 : Int32) → ((l1 = 0 → ((r1 = (112 : Int32) → G κ mX11_readClause 32 [.ref 119, .int l1, .int r1, .int (M1 119 10), .null] [] M1 Q) ∧ (¬ r1 = (112 : Int32) → ((r1 = (109 : Int32) → G κ mX11_readClause 32 [.ref 119, .int l1, .int r1, .int (M1 119 10), .null] [] M1 Q) ∧ (¬ r1 = (109 : Int32) → G κ mX11_readClause 36 [.ref 119, .int l1, .int r1, .int (M1 119 10), .null] [] M1 Q))))) ∧ (¬ l1 = 0 → G κ mX11_readClause 36 [.ref 119, .int l1, .int r1, .int (M1 119 10), .null] [] M1 Q)))))) :
    G κ mX11_readClause 0 [.ref 119, .int l1, .null, .null, .null] [] M Q := by
  refine g_aload_n (i := 0) dX11_readClause_0 rfl rfl ?_
  refine gc_RX11_123 rfl (Nat.le_of_ble_eq_true rfl) dX11_readClause_1 sh_119 (Nat.le_of_ble_eq_true rfl) ?_
  refine Cl.mono h (fun r1 M1 h => ?_)
  refine g_istore_n (i := 2) (L' := [.ref 119, .int l1, .int r1, .null, .null]) dX11_readClause_4 rfl (Nat.le_of_ble_eq_true rfl) rfl rfl ?_
  refine g_aload_n (i := 0) dX11_readClause_5 rfl rfl ?_
  refine gf_RX11_117 rfl dX11_readClause_6 sh_119 ?_
  refine g_istore_n (i := 3) (L' := [.ref 119, .int l1, .int r1, .int (M1 119 10), .null]) dX11_readClause_9 rfl (Nat.le_of_ble_eq_true rfl) rfl rfl ?_
  refine g_iload_n (i := 2) dX11_readClause_10 rfl rfl ?_
  refine g_bipush (v := (110 : Int32)) dX11_readClause_11 (by decide) ?_
  refine g_icmp_eq (tgt := 32) dX11_readClause_13 rfl ⟨fun hc => ?_, fun hc => ?_⟩
  · replace h := h.1 hc
    exact h
  · replace h := h.2 hc
    refine g_iload_n (i := 1) dX11_readClause_16 rfl rfl ?_
    refine g_if_ne (tgt := 36) dX11_readClause_17 rfl ⟨fun hc => ?_, fun hc => ?_⟩
    · replace h := h.1 hc
      refine g_iload_n (i := 2) dX11_readClause_20 rfl rfl ?_
      refine g_bipush (v := (112 : Int32)) dX11_readClause_21 (by decide) ?_
      refine g_icmp_eq (tgt := 32) dX11_readClause_23 rfl ⟨fun hc => ?_, fun hc => ?_⟩
      · replace h := h.1 hc
        exact h
      · replace h := h.2 hc
        refine g_iload_n (i := 2) dX11_readClause_26 rfl rfl ?_
        refine g_bipush (v := (109 : Int32)) dX11_readClause_27 (by decide) ?_
        refine g_icmp_ne (tgt := 36) dX11_readClause_29 rfl ⟨fun hc => ?_, fun hc => ?_⟩
        · replace h := h.1 hc
          exact h
        · replace h := h.2 hc
          exact h
    · replace h := h.2 hc
      exact h
theorem bX11_readClause_32 {κ : gK} {M : MM} {Q : Int32 → MM → Prop} (l1 : Int32) (l2 : Int32) (l3 : Int32)
    (h : G κ mX11_readClause 37 [.ref 119, .int l1, .int l2, .int l3, .null] [.int (1 : Int32)] M Q) :
    G κ mX11_readClause 32 [.ref 119, .int l1, .int l2, .int l3, .null] [] M Q := by
  refine g_iconst (v := (1 : Int32)) dX11_readClause_32 (by decide) ?_
  refine g_goto (tgt := 37) dX11_readClause_33 rfl ?_
  exact h
theorem bX11_readClause_36 {κ : gK} {M : MM} {Q : Int32 → MM → Prop} (l1 : Int32) (l2 : Int32) (l3 : Int32)
    (h : G κ mX11_readClause 37 [.ref 119, .int l1, .int l2, .int l3, .null] [.int (0 : Int32)] M Q) :
    G κ mX11_readClause 36 [.ref 119, .int l1, .int l2, .int l3, .null] [] M Q := by
  refine g_iconst (v := (0 : Int32)) dX11_readClause_36 (by decide) ?_
  exact h
theorem bX11_readClause_37 {κ : gK} {M : MM} {Q : Int32 → MM → Prop} (l1 : Int32) (l2 : Int32) (l3 : Int32) (s0 : Int32)
    (h : ((s0 = 0 → Cl κ mX11_faults [.ref 119, .int (1 : Int32), .int l3] M (fun _ M1 => Q 0 M1)) ∧ (¬ s0 = 0 → ((l2 = (110 : Int32) → ((l1 = 0 → G κ mX11_readClause 89 [.ref 119, .null, .null, .int l3, .null] [] M Q) ∧ (¬ l1 = 0 → G κ mX11_readClause 61 [.ref 119, .null, .int l2, .int l3, .null] [] M Q))) ∧ (¬ l2 = (110 : Int32) → G κ mX11_readClause 61 [.ref 119, .null, .int l2, .int l3, .null] [] M Q))))) :
    G κ mX11_readClause 37 [.ref 119, .int l1, .int l2, .int l3, .null] [.int s0] M Q := by
  refine g_istore (i := 4) (L' := [.ref 119, .int l1, .int l2, .int l3, .int s0]) dX11_readClause_37 (Nat.le_of_ble_eq_true rfl) rfl rfl ?_
  refine g_iload (i := 4) dX11_readClause_39 rfl ?_
  refine g_if_ne (tgt := 51) dX11_readClause_41 rfl ⟨fun hc => ?_, fun hc => ?_⟩
  · replace h := h.1 hc
    refine g_aload_n (i := 0) dX11_readClause_44 rfl rfl ?_
    refine g_iconst (v := (1 : Int32)) dX11_readClause_45 (by decide) ?_
    refine g_iload_n (i := 3) dX11_readClause_46 rfl rfl ?_
    refine gc_RX11_130 rfl (Nat.le_of_ble_eq_true rfl) dX11_readClause_47 sh_119 (Nat.le_of_ble_eq_true rfl) ?_
    refine Cl.mono h (fun r1 M1 h => ?_)
    exact g_vret dX11_readClause_50 rfl h
  · replace h := h.2 hc
    refine g_iload_n (i := 2) dX11_readClause_51 rfl rfl ?_
    refine g_bipush (v := (110 : Int32)) dX11_readClause_52 (by decide) ?_
    refine g_icmp_ne (tgt := 61) dX11_readClause_54 rfl ⟨fun hc => ?_, fun hc => ?_⟩
    · replace h := h.1 hc
      refine g_iload_n (i := 1) dX11_readClause_57 rfl rfl ?_
      refine g_if_eq (tgt := 89) dX11_readClause_58 rfl ⟨fun hc => ?_, fun hc => ?_⟩
      · replace h := h.1 hc
        exact g_sub _ (sub_c (Or.inr rfl) (sub_c (Or.inl rfl) (sub_c (Or.inl rfl) (sub_c (Or.inr rfl) (sub_c (Or.inl rfl) sub_n))))) h
      · replace h := h.2 hc
        exact g_sub _ (sub_c (Or.inr rfl) (sub_c (Or.inl rfl) (sub_c (Or.inr rfl) (sub_c (Or.inr rfl) (sub_c (Or.inl rfl) sub_n))))) h
    · replace h := h.2 hc
      exact g_sub _ (sub_c (Or.inr rfl) (sub_c (Or.inl rfl) (sub_c (Or.inr rfl) (sub_c (Or.inr rfl) (sub_c (Or.inl rfl) sub_n))))) h
theorem bX11_readClause_61 {κ : gK} {M : MM} {Q : Int32 → MM → Prop} (l2 : Int32) (l3 : Int32)
    (h : ((l2 = (109 : Int32) → ((0 < (M 119 17) → G κ mX11_readClause 89 [.ref 119, .null, .null, .int l3, .null] [] M Q) ∧ (¬ 0 < (M 119 17) → G κ mX11_readClause 74 [.ref 119, .null, .int l2, .int l3, .null] [] M Q))) ∧ (¬ l2 = (109 : Int32) → G κ mX11_readClause 74 [.ref 119, .null, .int l2, .int l3, .null] [] M Q))) :
    G κ mX11_readClause 61 [.ref 119, .null, .int l2, .int l3, .null] [] M Q := by
  refine g_iload_n (i := 2) dX11_readClause_61 rfl rfl ?_
  refine g_bipush (v := (109 : Int32)) dX11_readClause_62 (by decide) ?_
  refine g_icmp_ne (tgt := 74) dX11_readClause_64 rfl ⟨fun hc => ?_, fun hc => ?_⟩
  · replace h := h.1 hc
    refine g_aload_n (i := 0) dX11_readClause_67 rfl rfl ?_
    refine gf_RX11_137 rfl dX11_readClause_68 sh_119 ?_
    refine g_if_gt (tgt := 89) dX11_readClause_71 rfl ⟨fun hc => ?_, fun hc => ?_⟩
    · replace h := h.1 hc
      exact g_sub _ (sub_c (Or.inr rfl) (sub_c (Or.inr rfl) (sub_c (Or.inl rfl) (sub_c (Or.inr rfl) (sub_c (Or.inr rfl) sub_n))))) h
    · replace h := h.2 hc
      exact h
  · replace h := h.2 hc
    exact h
theorem bX11_readClause_74 {κ : gK} {M : MM} {Q : Int32 → MM → Prop} (l2 : Int32) (l3 : Int32)
    (h : ((l2 = (112 : Int32) → (((M 119 14) = (8 : Int32) → G κ mX11_readClause 89 [.ref 119, .null, .null, .int l3, .null] [] M Q) ∧ (¬ (M 119 14) = (8 : Int32) → G κ mX11_readClause 96 [.ref 119, .null, .int l2, .null, .null] [] M Q))) ∧ (¬ l2 = (112 : Int32) → G κ mX11_readClause 96 [.ref 119, .null, .int l2, .null, .null] [] M Q))) :
    G κ mX11_readClause 74 [.ref 119, .null, .int l2, .int l3, .null] [] M Q := by
  refine g_iload_n (i := 2) dX11_readClause_74 rfl rfl ?_
  refine g_bipush (v := (112 : Int32)) dX11_readClause_75 (by decide) ?_
  refine g_icmp_ne (tgt := 96) dX11_readClause_77 rfl ⟨fun hc => ?_, fun hc => ?_⟩
  · replace h := h.1 hc
    refine g_aload_n (i := 0) dX11_readClause_80 rfl rfl ?_
    refine gf_RX11_140 rfl dX11_readClause_81 sh_119 ?_
    refine g_bipush (v := (8 : Int32)) dX11_readClause_84 (by decide) ?_
    refine g_icmp_ne (tgt := 96) dX11_readClause_86 rfl ⟨fun hc => ?_, fun hc => ?_⟩
    · replace h := h.1 hc
      exact g_sub _ (sub_c (Or.inr rfl) (sub_c (Or.inr rfl) (sub_c (Or.inl rfl) (sub_c (Or.inr rfl) (sub_c (Or.inr rfl) sub_n))))) h
    · replace h := h.2 hc
      exact g_sub _ (sub_c (Or.inr rfl) (sub_c (Or.inr rfl) (sub_c (Or.inr rfl) (sub_c (Or.inl rfl) (sub_c (Or.inr rfl) sub_n))))) h
  · replace h := h.2 hc
    exact g_sub _ (sub_c (Or.inr rfl) (sub_c (Or.inr rfl) (sub_c (Or.inr rfl) (sub_c (Or.inl rfl) (sub_c (Or.inr rfl) sub_n))))) h
theorem bX11_readClause_89 {κ : gK} {M : MM} {Q : Int32 → MM → Prop} (l3 : Int32)
    (h : Cl κ mX11_faults [.ref 119, .int (3 : Int32), .int l3] M (fun _ M1 => Q 0 M1)) :
    G κ mX11_readClause 89 [.ref 119, .null, .null, .int l3, .null] [] M Q := by
  refine g_aload_n (i := 0) dX11_readClause_89 rfl rfl ?_
  refine g_iconst (v := (3 : Int32)) dX11_readClause_90 (by decide) ?_
  refine g_iload_n (i := 3) dX11_readClause_91 rfl rfl ?_
  refine gc_RX11_130 rfl (Nat.le_of_ble_eq_true rfl) dX11_readClause_92 sh_119 (Nat.le_of_ble_eq_true rfl) ?_
  refine Cl.mono h (fun r1 M1 h => ?_)
  exact g_vret dX11_readClause_95 rfl h
theorem bX11_readClause_96 {κ : gK} {M : MM} {Q : Int32 → MM → Prop} (l2 : Int32)
    (h : ∀ M1 : MM, M1 = (pt M 119 10 ((M 119 10) + (1 : Int32))) → (((l2 = (110 : Int32) → Cl κ mX11_number [.ref 119, .int (2 : Int32), .int (9 : Int32)] M1 (fun r2 M2 => ∀ M3 : MM, M3 = (pt M2 119 12 r2) → (Cl κ mX11_number [.ref 119, .int (0 : Int32), .int ((M3 119 12) - (1 : Int32))] M3 (fun r4 M4 => ∀ M5 : MM, M5 = (pt M4 119 13 r4) → (G κ mX11_readClause 158 [.ref 119, .null, .null, .null, .null] [] M5 Q))))) ∧ (¬ l2 = (110 : Int32) → ((l2 = (112 : Int32) → Cl κ mX11_readPerson [.ref 119] M1 (fun _ M6 => G κ mX11_readClause 158 [.ref 119, .null, .null, .null, .null] [] M6 Q)) ∧ (¬ l2 = (112 : Int32) → Cl κ mX11_readDawns [.ref 119] M1 (fun _ M7 => G κ mX11_readClause 158 [.ref 119, .null, .null, .null, .null] [] M7 Q))))))) :
    G κ mX11_readClause 96 [.ref 119, .null, .int l2, .null, .null] [] M Q := by
  refine g_aload_n (i := 0) dX11_readClause_96 rfl rfl ?_
  refine g_dup dX11_readClause_97 rfl ?_
  refine gf_RX11_117 rfl dX11_readClause_98 sh_119 ?_
  refine g_iconst (v := (1 : Int32)) dX11_readClause_101 (by decide) ?_
  refine g_iadd dX11_readClause_102 ?_
  refine gp_RX11_117 rfl dX11_readClause_103 sh_119 ?_
  refine g_nmM (fun M1 hM1 => ?_); replace h := h M1 hM1
  refine g_iload_n (i := 2) dX11_readClause_106 rfl rfl ?_
  refine g_bipush (v := (110 : Int32)) dX11_readClause_107 (by decide) ?_
  refine g_icmp_ne (tgt := 141) dX11_readClause_109 rfl ⟨fun hc => ?_, fun hc => ?_⟩
  · replace h := h.1 hc
    refine g_aload_n (i := 0) dX11_readClause_112 rfl rfl ?_
    refine g_aload_n (i := 0) dX11_readClause_113 rfl rfl ?_
    refine g_iconst (v := (2 : Int32)) dX11_readClause_114 (by decide) ?_
    refine g_bipush (v := (9 : Int32)) dX11_readClause_115 (by decide) ?_
    refine gc_RX11_134 rfl (Nat.le_of_ble_eq_true rfl) dX11_readClause_117 sh_119 (Nat.le_of_ble_eq_true rfl) ?_
    refine Cl.mono h (fun r2 M2 h => ?_)
    refine gp_RX11_143 rfl dX11_readClause_120 sh_119 ?_
    refine g_nmM (fun M3 hM3 => ?_); replace h := h M3 hM3
    refine g_aload_n (i := 0) dX11_readClause_123 rfl rfl ?_
    refine g_aload_n (i := 0) dX11_readClause_124 rfl rfl ?_
    refine g_iconst (v := (0 : Int32)) dX11_readClause_125 (by decide) ?_
    refine g_aload_n (i := 0) dX11_readClause_126 rfl rfl ?_
    refine gf_RX11_143 rfl dX11_readClause_127 sh_119 ?_
    refine g_iconst (v := (1 : Int32)) dX11_readClause_130 (by decide) ?_
    refine g_isub dX11_readClause_131 ?_
    refine gc_RX11_134 rfl (Nat.le_of_ble_eq_true rfl) dX11_readClause_132 sh_119 (Nat.le_of_ble_eq_true rfl) ?_
    refine Cl.mono h (fun r4 M4 h => ?_)
    refine gp_RX11_146 rfl dX11_readClause_135 sh_119 ?_
    refine g_nmM (fun M5 hM5 => ?_); replace h := h M5 hM5
    refine g_goto (tgt := 158) dX11_readClause_138 rfl ?_
    exact g_sub _ (sub_c (Or.inr rfl) (sub_c (Or.inr rfl) (sub_c (Or.inl rfl) (sub_c (Or.inr rfl) (sub_c (Or.inr rfl) sub_n))))) h
  · replace h := h.2 hc
    refine g_iload_n (i := 2) dX11_readClause_141 rfl rfl ?_
    refine g_bipush (v := (112 : Int32)) dX11_readClause_142 (by decide) ?_
    refine g_icmp_ne (tgt := 154) dX11_readClause_144 rfl ⟨fun hc => ?_, fun hc => ?_⟩
    · replace h := h.1 hc
      refine g_aload_n (i := 0) dX11_readClause_147 rfl rfl ?_
      refine gc_RX11_149 rfl (Nat.le_of_ble_eq_true rfl) dX11_readClause_148 sh_119 (Nat.le_of_ble_eq_true rfl) ?_
      refine Cl.mono h (fun r6 M6 h => ?_)
      refine g_goto (tgt := 158) dX11_readClause_151 rfl ?_
      exact g_sub _ (sub_c (Or.inr rfl) (sub_c (Or.inr rfl) (sub_c (Or.inl rfl) (sub_c (Or.inr rfl) (sub_c (Or.inr rfl) sub_n))))) h
    · replace h := h.2 hc
      refine g_aload_n (i := 0) dX11_readClause_154 rfl rfl ?_
      refine gc_RX11_152 rfl (Nat.le_of_ble_eq_true rfl) dX11_readClause_155 sh_119 (Nat.le_of_ble_eq_true rfl) ?_
      refine Cl.mono h (fun r7 M7 h => ?_)
      exact g_sub _ (sub_c (Or.inr rfl) (sub_c (Or.inr rfl) (sub_c (Or.inl rfl) (sub_c (Or.inr rfl) (sub_c (Or.inr rfl) sub_n))))) h
theorem bX11_readClause_158 {κ : gK} {M : MM} {Q : Int32 → MM → Prop} 
    (h : Cl κ mX11_ends [.ref 119] M (fun _ M1 => Q 0 M1)) :
    G κ mX11_readClause 158 [.ref 119, .null, .null, .null, .null] [] M Q := by
  refine g_aload_n (i := 0) dX11_readClause_158 rfl rfl ?_
  refine gc_RX11_154 rfl (Nat.le_of_ble_eq_true rfl) dX11_readClause_159 sh_119 (Nat.le_of_ble_eq_true rfl) ?_
  refine Cl.mono h (fun r1 M1 h => ?_)
  exact g_vret dX11_readClause_162 rfl h
theorem eX11_readClause {κ : gK} {M : MM} {Q : Int32 → MM → Prop} (l1 : Int32)
    (h : G κ mX11_readClause 0 [.ref 119, .int l1, .null, .null, .null] [] M Q) : Cl κ mX11_readClause [.ref 119, .int l1] M Q := g_entry 3 pl_X11_readClause (Nat.le_of_ble_eq_true rfl) (L := [.ref 119, .int l1, .null, .null, .null]) rfl (g_sub _ (sub_c (Or.inr rfl) (sub_c (Or.inr rfl) (sub_c (Or.inr rfl) (sub_c (Or.inr rfl) (sub_c (Or.inr rfl) sub_n))))) h)
theorem dX11_readAll_0 : decode cX11_readAll 0 = .ok (.aload_n 0, 1) := by decide +kernel
theorem dX11_readAll_1 : decode cX11_readAll 1 = .ok (.iconst 0, 1) := by decide +kernel
theorem dX11_readAll_2 : decode cX11_readAll 2 = .ok (.putfield 117, 3) := by decide +kernel
theorem dX11_readAll_5 : decode cX11_readAll 5 = .ok (.aload_n 0, 1) := by decide +kernel
theorem dX11_readAll_6 : decode cX11_readAll 6 = .ok (.iconst 0, 1) := by decide +kernel
theorem dX11_readAll_7 : decode cX11_readAll 7 = .ok (.putfield 120, 3) := by decide +kernel
theorem dX11_readAll_10 : decode cX11_readAll 10 = .ok (.aload_n 0, 1) := by decide +kernel
theorem dX11_readAll_11 : decode cX11_readAll 11 = .ok (.iconst (-1), 1) := by decide +kernel
theorem dX11_readAll_12 : decode cX11_readAll 12 = .ok (.putfield 22, 3) := by decide +kernel
theorem dX11_readAll_15 : decode cX11_readAll 15 = .ok (.aload_n 0, 1) := by decide +kernel
theorem dX11_readAll_16 : decode cX11_readAll 16 = .ok (.iconst 0, 1) := by decide +kernel
theorem dX11_readAll_17 : decode cX11_readAll 17 = .ok (.putfield 143, 3) := by decide +kernel
theorem dX11_readAll_20 : decode cX11_readAll 20 = .ok (.aload_n 0, 1) := by decide +kernel
theorem dX11_readAll_21 : decode cX11_readAll 21 = .ok (.iconst 0, 1) := by decide +kernel
theorem dX11_readAll_22 : decode cX11_readAll 22 = .ok (.putfield 146, 3) := by decide +kernel
theorem dX11_readAll_25 : decode cX11_readAll 25 = .ok (.aload_n 0, 1) := by decide +kernel
theorem dX11_readAll_26 : decode cX11_readAll 26 = .ok (.iconst 0, 1) := by decide +kernel
theorem dX11_readAll_27 : decode cX11_readAll 27 = .ok (.putfield 140, 3) := by decide +kernel
theorem dX11_readAll_30 : decode cX11_readAll 30 = .ok (.aload_n 0, 1) := by decide +kernel
theorem dX11_readAll_31 : decode cX11_readAll 31 = .ok (.iconst 0, 1) := by decide +kernel
theorem dX11_readAll_32 : decode cX11_readAll 32 = .ok (.putfield 137, 3) := by decide +kernel
theorem dX11_readAll_35 : decode cX11_readAll 35 = .ok (.iconst 1, 1) := by decide +kernel
theorem dX11_readAll_36 : decode cX11_readAll 36 = .ok (.istore_n 1, 1) := by decide +kernel
theorem dX11_readAll_37 : decode cX11_readAll 37 = .ok (.aload_n 0, 1) := by decide +kernel
theorem dX11_readAll_38 : decode cX11_readAll 38 = .ok (.getfield 120, 3) := by decide +kernel
theorem dX11_readAll_41 : decode cX11_readAll 41 = .ok (.ifCond .ne 21, 3) := by decide +kernel
theorem dX11_readAll_44 : decode cX11_readAll 44 = .ok (.aload_n 0, 1) := by decide +kernel
theorem dX11_readAll_45 : decode cX11_readAll 45 = .ok (.invokevirtual 123, 3) := by decide +kernel
theorem dX11_readAll_48 : decode cX11_readAll 48 = .ok (.iconst (-1), 1) := by decide +kernel
theorem dX11_readAll_49 : decode cX11_readAll 49 = .ok (.if_icmp .eq 13, 3) := by decide +kernel
theorem dX11_readAll_52 : decode cX11_readAll 52 = .ok (.aload_n 0, 1) := by decide +kernel
theorem dX11_readAll_53 : decode cX11_readAll 53 = .ok (.iload_n 1, 1) := by decide +kernel
theorem dX11_readAll_54 : decode cX11_readAll 54 = .ok (.invokevirtual 157, 3) := by decide +kernel
theorem dX11_readAll_57 : decode cX11_readAll 57 = .ok (.iconst 0, 1) := by decide +kernel
theorem dX11_readAll_58 : decode cX11_readAll 58 = .ok (.istore_n 1, 1) := by decide +kernel
theorem dX11_readAll_59 : decode cX11_readAll 59 = .ok (.goto (-22), 3) := by decide +kernel
theorem dX11_readAll_62 : decode cX11_readAll 62 = .ok (.return_, 1) := by decide +kernel
theorem bX11_readAll_0 {κ : gK} {M : MM} {Q : Int32 → MM → Prop} 
    (h : ∀ M1 : MM, M1 = (pt M 119 10 (0 : Int32)) → (∀ M2 : MM, M2 = (pt M1 119 11 (0 : Int32)) → (∀ M3 : MM, M3 = (pt M2 119 9 (-1 : Int32)) → (∀ M4 : MM, M4 = (pt M3 119 12 (0 : Int32)) → (∀ M5 : MM, M5 = (pt M4 119 13 (0 : Int32)) → (∀ M6 : MM, M6 = (pt M5 119 14 (0 : Int32)) → (∀ M7 : MM, M7 = (pt M6 119 17 (0 : Int32)) → (G κ mX11_readAll 37 [.ref 119, .int (1 : Int32)] [] M7 Q)))))))) :
    G κ mX11_readAll 0 [.ref 119, .null] [] M Q := by
  refine g_aload_n (i := 0) dX11_readAll_0 rfl rfl ?_
  refine g_iconst (v := (0 : Int32)) dX11_readAll_1 (by decide) ?_
  refine gp_RX11_117 rfl dX11_readAll_2 sh_119 ?_
  refine g_nmM (fun M1 hM1 => ?_); replace h := h M1 hM1
  refine g_aload_n (i := 0) dX11_readAll_5 rfl rfl ?_
  refine g_iconst (v := (0 : Int32)) dX11_readAll_6 (by decide) ?_
  refine gp_RX11_120 rfl dX11_readAll_7 sh_119 ?_
  refine g_nmM (fun M2 hM2 => ?_); replace h := h M2 hM2
  refine g_aload_n (i := 0) dX11_readAll_10 rfl rfl ?_
  refine g_iconst (v := (-1 : Int32)) dX11_readAll_11 (by decide) ?_
  refine gp_RX11_22 rfl dX11_readAll_12 sh_119 ?_
  refine g_nmM (fun M3 hM3 => ?_); replace h := h M3 hM3
  refine g_aload_n (i := 0) dX11_readAll_15 rfl rfl ?_
  refine g_iconst (v := (0 : Int32)) dX11_readAll_16 (by decide) ?_
  refine gp_RX11_143 rfl dX11_readAll_17 sh_119 ?_
  refine g_nmM (fun M4 hM4 => ?_); replace h := h M4 hM4
  refine g_aload_n (i := 0) dX11_readAll_20 rfl rfl ?_
  refine g_iconst (v := (0 : Int32)) dX11_readAll_21 (by decide) ?_
  refine gp_RX11_146 rfl dX11_readAll_22 sh_119 ?_
  refine g_nmM (fun M5 hM5 => ?_); replace h := h M5 hM5
  refine g_aload_n (i := 0) dX11_readAll_25 rfl rfl ?_
  refine g_iconst (v := (0 : Int32)) dX11_readAll_26 (by decide) ?_
  refine gp_RX11_140 rfl dX11_readAll_27 sh_119 ?_
  refine g_nmM (fun M6 hM6 => ?_); replace h := h M6 hM6
  refine g_aload_n (i := 0) dX11_readAll_30 rfl rfl ?_
  refine g_iconst (v := (0 : Int32)) dX11_readAll_31 (by decide) ?_
  refine gp_RX11_137 rfl dX11_readAll_32 sh_119 ?_
  refine g_nmM (fun M7 hM7 => ?_); replace h := h M7 hM7
  refine g_iconst (v := (1 : Int32)) dX11_readAll_35 (by decide) ?_
  refine g_istore_n (i := 1) (L' := [.ref 119, .int (1 : Int32)]) dX11_readAll_36 rfl (Nat.le_of_ble_eq_true rfl) rfl rfl ?_
  exact h
theorem bX11_readAll_37 {κ : gK} {M : MM} {Q : Int32 → MM → Prop} (l1 : Int32)
    (h : (((M 119 11) = 0 → Cl κ mX11_here [.ref 119] M (fun r1 M1 => ((r1 = (-1 : Int32) → G κ mX11_readAll 62 [.null, .null] [] M1 Q) ∧ (¬ r1 = (-1 : Int32) → Cl κ mX11_readClause [.ref 119, .int l1] M1 (fun _ M2 => G κ mX11_readAll 37 [.ref 119, .int (0 : Int32)] [] M2 Q))))) ∧ (¬ (M 119 11) = 0 → G κ mX11_readAll 62 [.null, .null] [] M Q))) :
    G κ mX11_readAll 37 [.ref 119, .int l1] [] M Q := by
  refine g_aload_n (i := 0) dX11_readAll_37 rfl rfl ?_
  refine gf_RX11_120 rfl dX11_readAll_38 sh_119 ?_
  refine g_if_ne (tgt := 62) dX11_readAll_41 rfl ⟨fun hc => ?_, fun hc => ?_⟩
  · replace h := h.1 hc
    refine g_aload_n (i := 0) dX11_readAll_44 rfl rfl ?_
    refine gc_RX11_123 rfl (Nat.le_of_ble_eq_true rfl) dX11_readAll_45 sh_119 (Nat.le_of_ble_eq_true rfl) ?_
    refine Cl.mono h (fun r1 M1 h => ?_)
    refine g_iconst (v := (-1 : Int32)) dX11_readAll_48 (by decide) ?_
    refine g_icmp_eq (tgt := 62) dX11_readAll_49 rfl ⟨fun hc => ?_, fun hc => ?_⟩
    · replace h := h.1 hc
      exact g_sub _ (sub_c (Or.inl rfl) (sub_c (Or.inl rfl) sub_n)) h
    · replace h := h.2 hc
      refine g_aload_n (i := 0) dX11_readAll_52 rfl rfl ?_
      refine g_iload_n (i := 1) dX11_readAll_53 rfl rfl ?_
      refine gc_RX11_157 rfl (Nat.le_of_ble_eq_true rfl) dX11_readAll_54 sh_119 (Nat.le_of_ble_eq_true rfl) ?_
      refine Cl.mono h (fun r2 M2 h => ?_)
      refine g_iconst (v := (0 : Int32)) dX11_readAll_57 (by decide) ?_
      refine g_istore_n (i := 1) (L' := [.ref 119, .int (0 : Int32)]) dX11_readAll_58 rfl (Nat.le_of_ble_eq_true rfl) rfl rfl ?_
      refine g_goto (tgt := 37) dX11_readAll_59 rfl ?_
      exact h
  · replace h := h.2 hc
    exact g_sub _ (sub_c (Or.inl rfl) (sub_c (Or.inl rfl) sub_n)) h
theorem bX11_readAll_62 {κ : gK} {M : MM} {Q : Int32 → MM → Prop} 
    (h : Q 0 M) :
    G κ mX11_readAll 62 [.null, .null] [] M Q := by
  exact g_vret dX11_readAll_62 rfl h
theorem eX11_readAll {κ : gK} {M : MM} {Q : Int32 → MM → Prop} 
    (h : G κ mX11_readAll 0 [.ref 119, .null] [] M Q) : Cl κ mX11_readAll [.ref 119] M Q := g_entry 1 pl_X11_readAll (Nat.le_of_ble_eq_true rfl) (L := [.ref 119, .null]) rfl (g_sub _ (sub_c (Or.inr rfl) (sub_c (Or.inr rfl) sub_n)) h)
theorem dX11_town_0 : decode cX11_town 0 = .ok (.aload_n 0, 1) := by decide +kernel
theorem dX11_town_1 : decode cX11_town 1 = .ok (.invokevirtual 161, 3) := by decide +kernel
theorem dX11_town_4 : decode cX11_town 4 = .ok (.aload_n 0, 1) := by decide +kernel
theorem dX11_town_5 : decode cX11_town 5 = .ok (.aload_n 0, 1) := by decide +kernel
theorem dX11_town_6 : decode cX11_town 6 = .ok (.getfield 22, 3) := by decide +kernel
theorem dX11_town_9 : decode cX11_town 9 = .ok (.aload_n 0, 1) := by decide +kernel
theorem dX11_town_10 : decode cX11_town 10 = .ok (.getfield 113, 3) := by decide +kernel
theorem dX11_town_13 : decode cX11_town 13 = .ok (.if_icmp .le 10, 3) := by decide +kernel
theorem dX11_town_16 : decode cX11_town 16 = .ok (.aload_n 0, 1) := by decide +kernel
theorem dX11_town_17 : decode cX11_town 17 = .ok (.getfield 113, 3) := by decide +kernel
theorem dX11_town_20 : decode cX11_town 20 = .ok (.goto 7, 3) := by decide +kernel
theorem dX11_town_23 : decode cX11_town 23 = .ok (.aload_n 0, 1) := by decide +kernel
theorem dX11_town_24 : decode cX11_town 24 = .ok (.getfield 22, 3) := by decide +kernel
theorem dX11_town_27 : decode cX11_town 27 = .ok (.putfield 22, 3) := by decide +kernel
theorem dX11_town_30 : decode cX11_town 30 = .ok (.aload_n 0, 1) := by decide +kernel
theorem dX11_town_31 : decode cX11_town 31 = .ok (.iconst 0, 1) := by decide +kernel
theorem dX11_town_32 : decode cX11_town 32 = .ok (.putfield 113, 3) := by decide +kernel
theorem dX11_town_35 : decode cX11_town 35 = .ok (.aload_n 0, 1) := by decide +kernel
theorem dX11_town_36 : decode cX11_town 36 = .ok (.getfield 120, 3) := by decide +kernel
theorem dX11_town_39 : decode cX11_town 39 = .ok (.ifCond .le 11, 3) := by decide +kernel
theorem dX11_town_42 : decode cX11_town 42 = .ok (.bipush (-10), 2) := by decide +kernel
theorem dX11_town_44 : decode cX11_town 44 = .ok (.aload_n 0, 1) := by decide +kernel
theorem dX11_town_45 : decode cX11_town 45 = .ok (.getfield 120, 3) := by decide +kernel
theorem dX11_town_48 : decode cX11_town 48 = .ok (.isub, 1) := by decide +kernel
theorem dX11_town_49 : decode cX11_town 49 = .ok (.ireturn, 1) := by decide +kernel
theorem dX11_town_50 : decode cX11_town 50 = .ok (.aload_n 0, 1) := by decide +kernel
theorem dX11_town_51 : decode cX11_town 51 = .ok (.aload_n 0, 1) := by decide +kernel
theorem dX11_town_52 : decode cX11_town 52 = .ok (.getfield 143, 3) := by decide +kernel
theorem dX11_town_55 : decode cX11_town 55 = .ok (.putfield 67, 3) := by decide +kernel
theorem dX11_town_58 : decode cX11_town 58 = .ok (.aload_n 0, 1) := by decide +kernel
theorem dX11_town_59 : decode cX11_town 59 = .ok (.aload_n 0, 1) := by decide +kernel
theorem dX11_town_60 : decode cX11_town 60 = .ok (.getfield 146, 3) := by decide +kernel
theorem dX11_town_63 : decode cX11_town 63 = .ok (.putfield 164, 3) := by decide +kernel
theorem dX11_town_66 : decode cX11_town 66 = .ok (.aload_n 0, 1) := by decide +kernel
theorem dX11_town_67 : decode cX11_town 67 = .ok (.aload_n 0, 1) := by decide +kernel
theorem dX11_town_68 : decode cX11_town 68 = .ok (.getfield 140, 3) := by decide +kernel
theorem dX11_town_71 : decode cX11_town 71 = .ok (.putfield 60, 3) := by decide +kernel
theorem dX11_town_74 : decode cX11_town 74 = .ok (.aload_n 0, 1) := by decide +kernel
theorem dX11_town_75 : decode cX11_town 75 = .ok (.aload_n 0, 1) := by decide +kernel
theorem dX11_town_76 : decode cX11_town 76 = .ok (.getfield 137, 3) := by decide +kernel
theorem dX11_town_79 : decode cX11_town 79 = .ok (.putfield 74, 3) := by decide +kernel
theorem dX11_town_82 : decode cX11_town 82 = .ok (.iconst 0, 1) := by decide +kernel
theorem dX11_town_83 : decode cX11_town 83 = .ok (.istore_n 1, 1) := by decide +kernel
theorem dX11_town_84 : decode cX11_town 84 = .ok (.iload_n 1, 1) := by decide +kernel
theorem dX11_town_85 : decode cX11_town 85 = .ok (.bipush 26, 2) := by decide +kernel
theorem dX11_town_87 : decode cX11_town 87 = .ok (.if_icmp .ge 16, 3) := by decide +kernel
theorem dX11_town_90 : decode cX11_town 90 = .ok (.aload_n 0, 1) := by decide +kernel
theorem dX11_town_91 : decode cX11_town 91 = .ok (.getfield 16, 3) := by decide +kernel
theorem dX11_town_94 : decode cX11_town 94 = .ok (.iload_n 1, 1) := by decide +kernel
theorem dX11_town_95 : decode cX11_town 95 = .ok (.iconst 0, 1) := by decide +kernel
theorem dX11_town_96 : decode cX11_town 96 = .ok (.iastore, 1) := by decide +kernel
theorem dX11_town_97 : decode cX11_town 97 = .ok (.iinc 1 1, 3) := by decide +kernel
theorem dX11_town_100 : decode cX11_town 100 = .ok (.goto (-16), 3) := by decide +kernel
theorem dX11_town_103 : decode cX11_town 103 = .ok (.iconst 0, 1) := by decide +kernel
theorem dX11_town_104 : decode cX11_town 104 = .ok (.istore_n 1, 1) := by decide +kernel
theorem dX11_town_105 : decode cX11_town 105 = .ok (.iload_n 1, 1) := by decide +kernel
theorem dX11_town_106 : decode cX11_town 106 = .ok (.aload_n 0, 1) := by decide +kernel
theorem dX11_town_107 : decode cX11_town 107 = .ok (.getfield 74, 3) := by decide +kernel
theorem dX11_town_110 : decode cX11_town 110 = .ok (.if_icmp .ge 21, 3) := by decide +kernel
theorem dX11_town_113 : decode cX11_town 113 = .ok (.aload_n 0, 1) := by decide +kernel
theorem dX11_town_114 : decode cX11_town 114 = .ok (.getfield 13, 3) := by decide +kernel
theorem dX11_town_117 : decode cX11_town 117 = .ok (.iload_n 1, 1) := by decide +kernel
theorem dX11_town_118 : decode cX11_town 118 = .ok (.aload_n 0, 1) := by decide +kernel
theorem dX11_town_119 : decode cX11_town 119 = .ok (.getfield 29, 3) := by decide +kernel
theorem dX11_town_122 : decode cX11_town 122 = .ok (.iload_n 1, 1) := by decide +kernel
theorem dX11_town_123 : decode cX11_town 123 = .ok (.iaload, 1) := by decide +kernel
theorem dX11_town_124 : decode cX11_town 124 = .ok (.iastore, 1) := by decide +kernel
theorem dX11_town_125 : decode cX11_town 125 = .ok (.iinc 1 1, 3) := by decide +kernel
theorem dX11_town_128 : decode cX11_town 128 = .ok (.goto (-23), 3) := by decide +kernel
theorem dX11_town_131 : decode cX11_town 131 = .ok (.iconst 0, 1) := by decide +kernel
theorem dX11_town_132 : decode cX11_town 132 = .ok (.istore_n 1, 1) := by decide +kernel
theorem dX11_town_133 : decode cX11_town 133 = .ok (.iload_n 1, 1) := by decide +kernel
theorem dX11_town_134 : decode cX11_town 134 = .ok (.aload_n 0, 1) := by decide +kernel
theorem dX11_town_135 : decode cX11_town 135 = .ok (.getfield 60, 3) := by decide +kernel
theorem dX11_town_138 : decode cX11_town 138 = .ok (.if_icmp .ge 62, 3) := by decide +kernel
theorem dX11_town_141 : decode cX11_town 141 = .ok (.aload_n 0, 1) := by decide +kernel
theorem dX11_town_142 : decode cX11_town 142 = .ok (.getfield 7, 3) := by decide +kernel
theorem dX11_town_145 : decode cX11_town 145 = .ok (.iload_n 1, 1) := by decide +kernel
theorem dX11_town_146 : decode cX11_town 146 = .ok (.aload_n 0, 1) := by decide +kernel
theorem dX11_town_147 : decode cX11_town 147 = .ok (.getfield 26, 3) := by decide +kernel
theorem dX11_town_150 : decode cX11_town 150 = .ok (.iconst 3, 1) := by decide +kernel
theorem dX11_town_151 : decode cX11_town 151 = .ok (.iload_n 1, 1) := by decide +kernel
theorem dX11_town_152 : decode cX11_town 152 = .ok (.imul, 1) := by decide +kernel
theorem dX11_town_153 : decode cX11_town 153 = .ok (.iaload, 1) := by decide +kernel
theorem dX11_town_154 : decode cX11_town 154 = .ok (.iastore, 1) := by decide +kernel
theorem dX11_town_155 : decode cX11_town 155 = .ok (.aload_n 0, 1) := by decide +kernel
theorem dX11_town_156 : decode cX11_town 156 = .ok (.getfield 16, 3) := by decide +kernel
theorem dX11_town_159 : decode cX11_town 159 = .ok (.iconst 2, 1) := by decide +kernel
theorem dX11_town_160 : decode cX11_town 160 = .ok (.iload_n 1, 1) := by decide +kernel
theorem dX11_town_161 : decode cX11_town 161 = .ok (.iadd, 1) := by decide +kernel
theorem dX11_town_162 : decode cX11_town 162 = .ok (.iconst 1, 1) := by decide +kernel
theorem dX11_town_163 : decode cX11_town 163 = .ok (.aload_n 0, 1) := by decide +kernel
theorem dX11_town_164 : decode cX11_town 164 = .ok (.getfield 26, 3) := by decide +kernel
theorem dX11_town_167 : decode cX11_town 167 = .ok (.iconst 3, 1) := by decide +kernel
theorem dX11_town_168 : decode cX11_town 168 = .ok (.iload_n 1, 1) := by decide +kernel
theorem dX11_town_169 : decode cX11_town 169 = .ok (.imul, 1) := by decide +kernel
theorem dX11_town_170 : decode cX11_town 170 = .ok (.iconst 1, 1) := by decide +kernel
theorem dX11_town_171 : decode cX11_town 171 = .ok (.iadd, 1) := by decide +kernel
theorem dX11_town_172 : decode cX11_town 172 = .ok (.iaload, 1) := by decide +kernel
theorem dX11_town_173 : decode cX11_town 173 = .ok (.ishl, 1) := by decide +kernel
theorem dX11_town_174 : decode cX11_town 174 = .ok (.iastore, 1) := by decide +kernel
theorem dX11_town_175 : decode cX11_town 175 = .ok (.aload_n 0, 1) := by decide +kernel
theorem dX11_town_176 : decode cX11_town 176 = .ok (.getfield 16, 3) := by decide +kernel
theorem dX11_town_179 : decode cX11_town 179 = .ok (.bipush 10, 2) := by decide +kernel
theorem dX11_town_181 : decode cX11_town 181 = .ok (.iload_n 1, 1) := by decide +kernel
theorem dX11_town_182 : decode cX11_town 182 = .ok (.iadd, 1) := by decide +kernel
theorem dX11_town_183 : decode cX11_town 183 = .ok (.aload_n 0, 1) := by decide +kernel
theorem dX11_town_184 : decode cX11_town 184 = .ok (.getfield 26, 3) := by decide +kernel
theorem dX11_town_187 : decode cX11_town 187 = .ok (.iconst 3, 1) := by decide +kernel
theorem dX11_town_188 : decode cX11_town 188 = .ok (.iload_n 1, 1) := by decide +kernel
theorem dX11_town_189 : decode cX11_town 189 = .ok (.imul, 1) := by decide +kernel
theorem dX11_town_190 : decode cX11_town 190 = .ok (.iconst 2, 1) := by decide +kernel
theorem dX11_town_191 : decode cX11_town 191 = .ok (.iadd, 1) := by decide +kernel
theorem dX11_town_192 : decode cX11_town 192 = .ok (.iaload, 1) := by decide +kernel
theorem dX11_town_193 : decode cX11_town 193 = .ok (.iastore, 1) := by decide +kernel
theorem dX11_town_194 : decode cX11_town 194 = .ok (.iinc 1 1, 3) := by decide +kernel
theorem dX11_town_197 : decode cX11_town 197 = .ok (.goto (-64), 3) := by decide +kernel
theorem dX11_town_200 : decode cX11_town 200 = .ok (.aload_n 0, 1) := by decide +kernel
theorem dX11_town_201 : decode cX11_town 201 = .ok (.iconst 0, 1) := by decide +kernel
theorem dX11_town_202 : decode cX11_town 202 = .ok (.putfield 167, 3) := by decide +kernel
theorem dX11_town_205 : decode cX11_town 205 = .ok (.aload_n 0, 1) := by decide +kernel
theorem dX11_town_206 : decode cX11_town 206 = .ok (.iconst 0, 1) := by decide +kernel
theorem dX11_town_207 : decode cX11_town 207 = .ok (.putfield 170, 3) := by decide +kernel
theorem dX11_town_210 : decode cX11_town 210 = .ok (.aload_n 0, 1) := by decide +kernel
theorem dX11_town_211 : decode cX11_town 211 = .ok (.iconst 0, 1) := by decide +kernel
theorem dX11_town_212 : decode cX11_town 212 = .ok (.putfield 173, 3) := by decide +kernel
theorem dX11_town_215 : decode cX11_town 215 = .ok (.aload_n 0, 1) := by decide +kernel
theorem dX11_town_216 : decode cX11_town 216 = .ok (.iconst 0, 1) := by decide +kernel
theorem dX11_town_217 : decode cX11_town 217 = .ok (.putfield 176, 3) := by decide +kernel
theorem dX11_town_220 : decode cX11_town 220 = .ok (.aload_n 0, 1) := by decide +kernel
theorem dX11_town_221 : decode cX11_town 221 = .ok (.getfield 56, 3) := by decide +kernel
theorem dX11_town_224 : decode cX11_town 224 = .ok (.iconst 0, 1) := by decide +kernel
theorem dX11_town_225 : decode cX11_town 225 = .ok (.iconst 0, 1) := by decide +kernel
theorem dX11_town_226 : decode cX11_town 226 = .ok (.bastore, 1) := by decide +kernel
theorem dX11_town_227 : decode cX11_town 227 = .ok (.aload_n 0, 1) := by decide +kernel
theorem dX11_town_228 : decode cX11_town 228 = .ok (.getfield 56, 3) := by decide +kernel
theorem dX11_town_231 : decode cX11_town 231 = .ok (.iconst 1, 1) := by decide +kernel
theorem dX11_town_232 : decode cX11_town 232 = .ok (.iconst 0, 1) := by decide +kernel
theorem dX11_town_233 : decode cX11_town 233 = .ok (.bastore, 1) := by decide +kernel
theorem dX11_town_234 : decode cX11_town 234 = .ok (.aload_n 0, 1) := by decide +kernel
theorem dX11_town_235 : decode cX11_town 235 = .ok (.getfield 60, 3) := by decide +kernel
theorem dX11_town_238 : decode cX11_town 238 = .ok (.ireturn, 1) := by decide +kernel
theorem bX11_town_0 {κ : gK} {M : MM} {Q : Int32 → MM → Prop} 
    (h : Cl κ mX11_readAll [.ref 119] M (fun _ M1 => (((M1 119 9) ≤ (M1 119 8) → G κ mX11_town 27 [.ref 119, .null] [.int (M1 119 9), .ref 119] M1 Q) ∧ (¬ (M1 119 9) ≤ (M1 119 8) → G κ mX11_town 27 [.ref 119, .null] [.int (M1 119 8), .ref 119] M1 Q)))) :
    G κ mX11_town 0 [.ref 119, .null] [] M Q := by
  refine g_aload_n (i := 0) dX11_town_0 rfl rfl ?_
  refine gc_RX11_161 rfl (Nat.le_of_ble_eq_true rfl) dX11_town_1 sh_119 (Nat.le_of_ble_eq_true rfl) ?_
  refine Cl.mono h (fun r1 M1 h => ?_)
  refine g_aload_n (i := 0) dX11_town_4 rfl rfl ?_
  refine g_aload_n (i := 0) dX11_town_5 rfl rfl ?_
  refine gf_RX11_22 rfl dX11_town_6 sh_119 ?_
  refine g_aload_n (i := 0) dX11_town_9 rfl rfl ?_
  refine gf_RX11_113 rfl dX11_town_10 sh_119 ?_
  refine g_icmp_le (tgt := 23) dX11_town_13 rfl ⟨fun hc => ?_, fun hc => ?_⟩
  · replace h := h.1 hc
    refine g_aload_n (i := 0) dX11_town_23 rfl rfl ?_
    refine gf_RX11_22 rfl dX11_town_24 sh_119 ?_
    exact h
  · replace h := h.2 hc
    refine g_aload_n (i := 0) dX11_town_16 rfl rfl ?_
    refine gf_RX11_113 rfl dX11_town_17 sh_119 ?_
    refine g_goto (tgt := 27) dX11_town_20 rfl ?_
    exact h
theorem bX11_town_27 {κ : gK} {M : MM} {Q : Int32 → MM → Prop} (s0 : Int32)
    (h : ∀ M1 : MM, M1 = (pt M 119 9 s0) → (∀ M2 : MM, M2 = (pt M1 119 8 (0 : Int32)) → ((((M2 119 11) ≤ 0 → ∀ M3 : MM, M3 = (pt M2 119 0 (M2 119 12)) → (∀ M4 : MM, M4 = (pt M3 119 1 (M3 119 13)) → (∀ M5 : MM, M5 = (pt M4 119 2 (M4 119 14)) → (∀ M6 : MM, M6 = (pt M5 119 5 (M5 119 17)) → (G κ mX11_town 84 [.ref 119, .int (0 : Int32)] [] M6 Q))))) ∧ (¬ (M2 119 11) ≤ 0 → Q ((-10 : Int32) - (M2 119 11)) M2))))) :
    G κ mX11_town 27 [.ref 119, .null] [.int s0, .ref 119] M Q := by
  refine gp_RX11_22 rfl dX11_town_27 sh_119 ?_
  refine g_nmM (fun M1 hM1 => ?_); replace h := h M1 hM1
  refine g_aload_n (i := 0) dX11_town_30 rfl rfl ?_
  refine g_iconst (v := (0 : Int32)) dX11_town_31 (by decide) ?_
  refine gp_RX11_113 rfl dX11_town_32 sh_119 ?_
  refine g_nmM (fun M2 hM2 => ?_); replace h := h M2 hM2
  refine g_aload_n (i := 0) dX11_town_35 rfl rfl ?_
  refine gf_RX11_120 rfl dX11_town_36 sh_119 ?_
  refine g_if_le (tgt := 50) dX11_town_39 rfl ⟨fun hc => ?_, fun hc => ?_⟩
  · replace h := h.1 hc
    refine g_aload_n (i := 0) dX11_town_50 rfl rfl ?_
    refine g_aload_n (i := 0) dX11_town_51 rfl rfl ?_
    refine gf_RX11_143 rfl dX11_town_52 sh_119 ?_
    refine gp_RX11_67 rfl dX11_town_55 sh_119 ?_
    refine g_nmM (fun M3 hM3 => ?_); replace h := h M3 hM3
    refine g_aload_n (i := 0) dX11_town_58 rfl rfl ?_
    refine g_aload_n (i := 0) dX11_town_59 rfl rfl ?_
    refine gf_RX11_146 rfl dX11_town_60 sh_119 ?_
    refine gp_RX11_164 rfl dX11_town_63 sh_119 ?_
    refine g_nmM (fun M4 hM4 => ?_); replace h := h M4 hM4
    refine g_aload_n (i := 0) dX11_town_66 rfl rfl ?_
    refine g_aload_n (i := 0) dX11_town_67 rfl rfl ?_
    refine gf_RX11_140 rfl dX11_town_68 sh_119 ?_
    refine gp_RX11_60 rfl dX11_town_71 sh_119 ?_
    refine g_nmM (fun M5 hM5 => ?_); replace h := h M5 hM5
    refine g_aload_n (i := 0) dX11_town_74 rfl rfl ?_
    refine g_aload_n (i := 0) dX11_town_75 rfl rfl ?_
    refine gf_RX11_137 rfl dX11_town_76 sh_119 ?_
    refine gp_RX11_74 rfl dX11_town_79 sh_119 ?_
    refine g_nmM (fun M6 hM6 => ?_); replace h := h M6 hM6
    refine g_iconst (v := (0 : Int32)) dX11_town_82 (by decide) ?_
    refine g_istore_n (i := 1) (L' := [.ref 119, .int (0 : Int32)]) dX11_town_83 rfl (Nat.le_of_ble_eq_true rfl) rfl rfl ?_
    exact h
  · replace h := h.2 hc
    refine g_bipush (v := (-10 : Int32)) dX11_town_42 (by decide) ?_
    refine g_aload_n (i := 0) dX11_town_44 rfl rfl ?_
    refine gf_RX11_120 rfl dX11_town_45 sh_119 ?_
    refine g_isub dX11_town_48 ?_
    exact g_iret dX11_town_49 rfl h
theorem bX11_town_84 {κ : gK} {M : MM} {Q : Int32 → MM → Prop} (l1 : Int32)
    (h : (((26 : Int32) ≤ l1 → G κ mX11_town 105 [.ref 119, .int (0 : Int32)] [] M Q) ∧ (¬ (26 : Int32) ≤ l1 → (vp_in l1 26) ∧ (∀ M1 : MM, M1 = (pt M 122 (l1).toNatClampNeg (0 : Int32)) → (G κ mX11_town 84 [.ref 119, .int (l1 + 1)] [] M1 Q))))) :
    G κ mX11_town 84 [.ref 119, .int l1] [] M Q := by
  refine g_iload_n (i := 1) dX11_town_84 rfl rfl ?_
  refine g_bipush (v := (26 : Int32)) dX11_town_85 (by decide) ?_
  refine g_icmp_ge (tgt := 103) dX11_town_87 rfl ⟨fun hc => ?_, fun hc => ?_⟩
  · replace h := h.1 hc
    refine g_iconst (v := (0 : Int32)) dX11_town_103 (by decide) ?_
    refine g_istore_n (i := 1) (L' := [.ref 119, .int (0 : Int32)]) dX11_town_104 rfl (Nat.le_of_ble_eq_true rfl) rfl rfl ?_
    exact h
  · replace h := h.2 hc
    refine g_aload_n (i := 0) dX11_town_90 rfl rfl ?_
    refine gf_RX11_16 rfl dX11_town_91 sh_119 ?_
    refine g_iload_n (i := 1) dX11_town_94 rfl rfl ?_
    refine g_iconst (v := (0 : Int32)) dX11_town_95 (by decide) ?_
    have hv1 := h.1; replace h := h.2
    refine g_iastP dX11_town_96 sh_122 hv1 ?_
    refine g_nmM (fun M1 hM1 => ?_); replace h := h M1 hM1
    refine g_iinc (v := (l1 + 1)) (L' := [.ref 119, .int (l1 + 1)]) dX11_town_97 rfl rfl (Nat.le_of_ble_eq_true rfl) rfl rfl ?_
    refine g_goto (tgt := 84) dX11_town_100 rfl ?_
    exact h
theorem bX11_town_105 {κ : gK} {M : MM} {Q : Int32 → MM → Prop} (l1 : Int32)
    (h : (((M 119 5) ≤ l1 → G κ mX11_town 133 [.ref 119, .int (0 : Int32)] [] M Q) ∧ (¬ (M 119 5) ≤ l1 → (vp_in l1 12) ∧ (∀ M1 : MM, M1 = (pt M 121 (l1).toNatClampNeg (M 125 (l1).toNatClampNeg)) → (G κ mX11_town 105 [.ref 119, .int (l1 + 1)] [] M1 Q))))) :
    G κ mX11_town 105 [.ref 119, .int l1] [] M Q := by
  refine g_iload_n (i := 1) dX11_town_105 rfl rfl ?_
  refine g_aload_n (i := 0) dX11_town_106 rfl rfl ?_
  refine gf_RX11_74 rfl dX11_town_107 sh_119 ?_
  refine g_icmp_ge (tgt := 131) dX11_town_110 rfl ⟨fun hc => ?_, fun hc => ?_⟩
  · replace h := h.1 hc
    refine g_iconst (v := (0 : Int32)) dX11_town_131 (by decide) ?_
    refine g_istore_n (i := 1) (L' := [.ref 119, .int (0 : Int32)]) dX11_town_132 rfl (Nat.le_of_ble_eq_true rfl) rfl rfl ?_
    exact h
  · replace h := h.2 hc
    refine g_aload_n (i := 0) dX11_town_113 rfl rfl ?_
    refine gf_RX11_13 rfl dX11_town_114 sh_119 ?_
    refine g_iload_n (i := 1) dX11_town_117 rfl rfl ?_
    refine g_aload_n (i := 0) dX11_town_118 rfl rfl ?_
    refine gf_RX11_29 rfl dX11_town_119 sh_119 ?_
    refine g_iload_n (i := 1) dX11_town_122 rfl rfl ?_
    have hv1 := h.1; replace h := h.2
    refine g_iald dX11_town_123 sh_125 hv1 ?_
    refine g_iastP dX11_town_124 sh_121 hv1 ?_
    refine g_nmM (fun M1 hM1 => ?_); replace h := h M1 hM1
    refine g_iinc (v := (l1 + 1)) (L' := [.ref 119, .int (l1 + 1)]) dX11_town_125 rfl rfl (Nat.le_of_ble_eq_true rfl) rfl rfl ?_
    refine g_goto (tgt := 105) dX11_town_128 rfl ?_
    exact h
theorem bX11_town_133 {κ : gK} {M : MM} {Q : Int32 → MM → Prop} (l1 : Int32)
    (h : (((M 119 2) ≤ l1 → ∀ M1 : MM, M1 = (pt M 119 24 (0 : Int32)) → (∀ M2 : MM, M2 = (pt M1 119 26 (0 : Int32)) → (∀ M3 : MM, M3 = (pt M2 119 29 (0 : Int32)) → (∀ M4 : MM, M4 = (pt M3 119 19 (0 : Int32)) → (∀ M5 : MM, M5 = (pt M4 134 0 (0 : Int32)) → (∀ M6 : MM, M6 = (pt M5 134 1 (0 : Int32)) → (Q (M6 119 2) M6))))))) ∧ (¬ (M 119 2) ≤ l1 → (vp_in ((3 : Int32) * l1) 24) ∧ ((vp_in l1 8) ∧ (∀ M7 : MM, M7 = (pt M 120 (l1).toNatClampNeg (M 124 (((3 : Int32) * l1)).toNatClampNeg)) → ((vp_in (((3 : Int32) * l1) + (1 : Int32)) 24) ∧ ((vp_in ((2 : Int32) + l1) 26) ∧ (∀ M8 : MM, M8 = (pt M7 122 (((2 : Int32) + l1)).toNatClampNeg (jshl (1 : Int32) (M7 124 ((((3 : Int32) * l1) + (1 : Int32))).toNatClampNeg))) → ((vp_in (((3 : Int32) * l1) + (2 : Int32)) 24) ∧ ((vp_in ((10 : Int32) + l1) 26) ∧ (∀ M9 : MM, M9 = (pt M8 122 (((10 : Int32) + l1)).toNatClampNeg (M8 124 ((((3 : Int32) * l1) + (2 : Int32))).toNatClampNeg)) → (G κ mX11_town 133 [.ref 119, .int (l1 + 1)] [] M9 Q)))))))))))) :
    G κ mX11_town 133 [.ref 119, .int l1] [] M Q := by
  refine g_iload_n (i := 1) dX11_town_133 rfl rfl ?_
  refine g_aload_n (i := 0) dX11_town_134 rfl rfl ?_
  refine gf_RX11_60 rfl dX11_town_135 sh_119 ?_
  refine g_icmp_ge (tgt := 200) dX11_town_138 rfl ⟨fun hc => ?_, fun hc => ?_⟩
  · replace h := h.1 hc
    refine g_aload_n (i := 0) dX11_town_200 rfl rfl ?_
    refine g_iconst (v := (0 : Int32)) dX11_town_201 (by decide) ?_
    refine gp_RX11_167 rfl dX11_town_202 sh_119 ?_
    refine g_nmM (fun M1 hM1 => ?_); replace h := h M1 hM1
    refine g_aload_n (i := 0) dX11_town_205 rfl rfl ?_
    refine g_iconst (v := (0 : Int32)) dX11_town_206 (by decide) ?_
    refine gp_RX11_170 rfl dX11_town_207 sh_119 ?_
    refine g_nmM (fun M2 hM2 => ?_); replace h := h M2 hM2
    refine g_aload_n (i := 0) dX11_town_210 rfl rfl ?_
    refine g_iconst (v := (0 : Int32)) dX11_town_211 (by decide) ?_
    refine gp_RX11_173 rfl dX11_town_212 sh_119 ?_
    refine g_nmM (fun M3 hM3 => ?_); replace h := h M3 hM3
    refine g_aload_n (i := 0) dX11_town_215 rfl rfl ?_
    refine g_iconst (v := (0 : Int32)) dX11_town_216 (by decide) ?_
    refine gp_RX11_176 rfl dX11_town_217 sh_119 ?_
    refine g_nmM (fun M4 hM4 => ?_); replace h := h M4 hM4
    refine g_aload_n (i := 0) dX11_town_220 rfl rfl ?_
    refine gf_RX11_56 rfl dX11_town_221 sh_119 ?_
    refine g_iconst (v := (0 : Int32)) dX11_town_224 (by decide) ?_
    refine g_iconst (v := (0 : Int32)) dX11_town_225 (by decide) ?_
    refine g_zastP dX11_town_226 sh_134 (by unfold vp_in; decide) ?_
    refine g_nmM (fun M5 hM5 => ?_); replace h := h M5 hM5
    refine g_aload_n (i := 0) dX11_town_227 rfl rfl ?_
    refine gf_RX11_56 rfl dX11_town_228 sh_119 ?_
    refine g_iconst (v := (1 : Int32)) dX11_town_231 (by decide) ?_
    refine g_iconst (v := (0 : Int32)) dX11_town_232 (by decide) ?_
    refine g_zastP dX11_town_233 sh_134 (by unfold vp_in; decide) ?_
    refine g_nmM (fun M6 hM6 => ?_); replace h := h M6 hM6
    refine g_aload_n (i := 0) dX11_town_234 rfl rfl ?_
    refine gf_RX11_60 rfl dX11_town_235 sh_119 ?_
    exact g_iret dX11_town_238 rfl h
  · replace h := h.2 hc
    refine g_aload_n (i := 0) dX11_town_141 rfl rfl ?_
    refine gf_RX11_7 rfl dX11_town_142 sh_119 ?_
    refine g_iload_n (i := 1) dX11_town_145 rfl rfl ?_
    refine g_aload_n (i := 0) dX11_town_146 rfl rfl ?_
    refine gf_RX11_26 rfl dX11_town_147 sh_119 ?_
    refine g_iconst (v := (3 : Int32)) dX11_town_150 (by decide) ?_
    refine g_iload_n (i := 1) dX11_town_151 rfl rfl ?_
    refine g_imul dX11_town_152 ?_
    have hv1 := h.1; replace h := h.2
    refine g_iald dX11_town_153 sh_124 hv1 ?_
    have hv2 := h.1; replace h := h.2
    refine g_iastP dX11_town_154 sh_120 hv2 ?_
    refine g_nmM (fun M7 hM7 => ?_); replace h := h M7 hM7
    refine g_aload_n (i := 0) dX11_town_155 rfl rfl ?_
    refine gf_RX11_16 rfl dX11_town_156 sh_119 ?_
    refine g_iconst (v := (2 : Int32)) dX11_town_159 (by decide) ?_
    refine g_iload_n (i := 1) dX11_town_160 rfl rfl ?_
    refine g_iadd dX11_town_161 ?_
    refine g_iconst (v := (1 : Int32)) dX11_town_162 (by decide) ?_
    refine g_aload_n (i := 0) dX11_town_163 rfl rfl ?_
    refine gf_RX11_26 rfl dX11_town_164 sh_119 ?_
    refine g_iconst (v := (3 : Int32)) dX11_town_167 (by decide) ?_
    refine g_iload_n (i := 1) dX11_town_168 rfl rfl ?_
    refine g_imul dX11_town_169 ?_
    refine g_iconst (v := (1 : Int32)) dX11_town_170 (by decide) ?_
    refine g_iadd dX11_town_171 ?_
    have hv3 := h.1; replace h := h.2
    refine g_iald dX11_town_172 sh_124 hv3 ?_
    refine g_ishl dX11_town_173 ?_
    have hv4 := h.1; replace h := h.2
    refine g_iastP dX11_town_174 sh_122 hv4 ?_
    refine g_nmM (fun M8 hM8 => ?_); replace h := h M8 hM8
    refine g_aload_n (i := 0) dX11_town_175 rfl rfl ?_
    refine gf_RX11_16 rfl dX11_town_176 sh_119 ?_
    refine g_bipush (v := (10 : Int32)) dX11_town_179 (by decide) ?_
    refine g_iload_n (i := 1) dX11_town_181 rfl rfl ?_
    refine g_iadd dX11_town_182 ?_
    refine g_aload_n (i := 0) dX11_town_183 rfl rfl ?_
    refine gf_RX11_26 rfl dX11_town_184 sh_119 ?_
    refine g_iconst (v := (3 : Int32)) dX11_town_187 (by decide) ?_
    refine g_iload_n (i := 1) dX11_town_188 rfl rfl ?_
    refine g_imul dX11_town_189 ?_
    refine g_iconst (v := (2 : Int32)) dX11_town_190 (by decide) ?_
    refine g_iadd dX11_town_191 ?_
    have hv5 := h.1; replace h := h.2
    refine g_iald dX11_town_192 sh_124 hv5 ?_
    have hv6 := h.1; replace h := h.2
    refine g_iastP dX11_town_193 sh_122 hv6 ?_
    refine g_nmM (fun M9 hM9 => ?_); replace h := h M9 hM9
    refine g_iinc (v := (l1 + 1)) (L' := [.ref 119, .int (l1 + 1)]) dX11_town_194 rfl rfl (Nat.le_of_ble_eq_true rfl) rfl rfl ?_
    refine g_goto (tgt := 133) dX11_town_197 rfl ?_
    exact h
theorem eX11_town {κ : gK} {M : MM} {Q : Int32 → MM → Prop} 
    (h : G κ mX11_town 0 [.ref 119, .null] [] M Q) : Cl κ mX11_town [.ref 119] M Q := g_entry 1 pl_X11_town (Nat.le_of_ble_eq_true rfl) (L := [.ref 119, .null]) rfl (g_sub _ (sub_c (Or.inr rfl) (sub_c (Or.inr rfl) sub_n)) h)
theorem dX11_fault_0 : decode cX11_fault 0 = .ok (.aload_n 0, 1) := by decide +kernel
theorem dX11_fault_1 : decode cX11_fault 1 = .ok (.getfield 22, 3) := by decide +kernel
theorem dX11_fault_4 : decode cX11_fault 4 = .ok (.ireturn, 1) := by decide +kernel
theorem bX11_fault_0 {κ : gK} {M : MM} {Q : Int32 → MM → Prop} 
    (h : Q (M 119 9) M) :
    G κ mX11_fault 0 [.ref 119] [] M Q := by
  refine g_aload_n (i := 0) dX11_fault_0 rfl rfl ?_
  refine gf_RX11_22 rfl dX11_fault_1 sh_119 ?_
  exact g_iret dX11_fault_4 rfl h
theorem eX11_fault {κ : gK} {M : MM} {Q : Int32 → MM → Prop} 
    (h : G κ mX11_fault 0 [.ref 119] [] M Q) : Cl κ mX11_fault [.ref 119] M Q := g_entry 0 pl_X11_fault (Nat.le_of_ble_eq_true rfl) (L := [.ref 119]) rfl (g_sub _ (sub_c (Or.inr rfl) sub_n) h)
theorem dX11_told_0 : decode cX11_told 0 = .ok (.iload_n 1, 1) := by decide +kernel
theorem dX11_told_1 : decode cX11_told 1 = .ok (.tableswitch 190 0 15 #[79, 84, 89, 94, 99, 106, 128, 135, 150, 155, 160, 165, 170, 175, 180, 185], 79) := by decide +kernel
theorem dX11_told_80 : decode cX11_told 80 = .ok (.aload_n 0, 1) := by decide +kernel
theorem dX11_told_81 : decode cX11_told 81 = .ok (.getfield 67, 3) := by decide +kernel
theorem dX11_told_84 : decode cX11_told 84 = .ok (.ireturn, 1) := by decide +kernel
theorem dX11_told_85 : decode cX11_told 85 = .ok (.aload_n 0, 1) := by decide +kernel
theorem dX11_told_86 : decode cX11_told 86 = .ok (.getfield 164, 3) := by decide +kernel
theorem dX11_told_89 : decode cX11_told 89 = .ok (.ireturn, 1) := by decide +kernel
theorem dX11_told_90 : decode cX11_told 90 = .ok (.aload_n 0, 1) := by decide +kernel
theorem dX11_told_91 : decode cX11_told 91 = .ok (.getfield 60, 3) := by decide +kernel
theorem dX11_told_94 : decode cX11_told 94 = .ok (.ireturn, 1) := by decide +kernel
theorem dX11_told_95 : decode cX11_told 95 = .ok (.aload_n 0, 1) := by decide +kernel
theorem dX11_told_96 : decode cX11_told 96 = .ok (.getfield 113, 3) := by decide +kernel
theorem dX11_told_99 : decode cX11_told 99 = .ok (.ireturn, 1) := by decide +kernel
theorem dX11_told_100 : decode cX11_told 100 = .ok (.aload_n 0, 1) := by decide +kernel
theorem dX11_told_101 : decode cX11_told 101 = .ok (.getfield 16, 3) := by decide +kernel
theorem dX11_told_104 : decode cX11_told 104 = .ok (.iconst 0, 1) := by decide +kernel
theorem dX11_told_105 : decode cX11_told 105 = .ok (.iaload, 1) := by decide +kernel
theorem dX11_told_106 : decode cX11_told 106 = .ok (.ireturn, 1) := by decide +kernel
theorem dX11_told_107 : decode cX11_told 107 = .ok (.aload_n 0, 1) := by decide +kernel
theorem dX11_told_108 : decode cX11_told 108 = .ok (.invokevirtual 179, 3) := by decide +kernel
theorem dX11_told_111 : decode cX11_told 111 = .ok (.ifCond .eq 16, 3) := by decide +kernel
theorem dX11_told_114 : decode cX11_told 114 = .ok (.aload_n 0, 1) := by decide +kernel
theorem dX11_told_115 : decode cX11_told 115 = .ok (.aload_n 0, 1) := by decide +kernel
theorem dX11_told_116 : decode cX11_told 116 = .ok (.getfield 16, 3) := by decide +kernel
theorem dX11_told_119 : decode cX11_told 119 = .ok (.iconst 0, 1) := by decide +kernel
theorem dX11_told_120 : decode cX11_told 120 = .ok (.iaload, 1) := by decide +kernel
theorem dX11_told_121 : decode cX11_told 121 = .ok (.invokevirtual 89, 3) := by decide +kernel
theorem dX11_told_124 : decode cX11_told 124 = .ok (.goto 4, 3) := by decide +kernel
theorem dX11_told_127 : decode cX11_told 127 = .ok (.iconst 0, 1) := by decide +kernel
theorem dX11_told_128 : decode cX11_told 128 = .ok (.ireturn, 1) := by decide +kernel
theorem dX11_told_129 : decode cX11_told 129 = .ok (.aload_n 0, 1) := by decide +kernel
theorem dX11_told_130 : decode cX11_told 130 = .ok (.getfield 16, 3) := by decide +kernel
theorem dX11_told_133 : decode cX11_told 133 = .ok (.iconst 1, 1) := by decide +kernel
theorem dX11_told_134 : decode cX11_told 134 = .ok (.iaload, 1) := by decide +kernel
theorem dX11_told_135 : decode cX11_told 135 = .ok (.ireturn, 1) := by decide +kernel
theorem dX11_told_136 : decode cX11_told 136 = .ok (.aload_n 0, 1) := by decide +kernel
theorem dX11_told_137 : decode cX11_told 137 = .ok (.aload_n 0, 1) := by decide +kernel
theorem dX11_told_138 : decode cX11_told 138 = .ok (.getfield 16, 3) := by decide +kernel
theorem dX11_told_141 : decode cX11_told 141 = .ok (.iconst 1, 1) := by decide +kernel
theorem dX11_told_142 : decode cX11_told 142 = .ok (.iaload, 1) := by decide +kernel
theorem dX11_told_143 : decode cX11_told 143 = .ok (.aload_n 0, 1) := by decide +kernel
theorem dX11_told_144 : decode cX11_told 144 = .ok (.getfield 164, 3) := by decide +kernel
theorem dX11_told_147 : decode cX11_told 147 = .ok (.invokevirtual 77, 3) := by decide +kernel
theorem dX11_told_150 : decode cX11_told 150 = .ok (.ireturn, 1) := by decide +kernel
theorem dX11_told_151 : decode cX11_told 151 = .ok (.aload_n 0, 1) := by decide +kernel
theorem dX11_told_152 : decode cX11_told 152 = .ok (.invokevirtual 183, 3) := by decide +kernel
theorem dX11_told_155 : decode cX11_told 155 = .ok (.ireturn, 1) := by decide +kernel
theorem dX11_told_156 : decode cX11_told 156 = .ok (.aload_n 0, 1) := by decide +kernel
theorem dX11_told_157 : decode cX11_told 157 = .ok (.invokevirtual 186, 3) := by decide +kernel
theorem dX11_told_160 : decode cX11_told 160 = .ok (.ireturn, 1) := by decide +kernel
theorem dX11_told_161 : decode cX11_told 161 = .ok (.aload_n 0, 1) := by decide +kernel
theorem dX11_told_162 : decode cX11_told 162 = .ok (.invokevirtual 189, 3) := by decide +kernel
theorem dX11_told_165 : decode cX11_told 165 = .ok (.ireturn, 1) := by decide +kernel
theorem dX11_told_166 : decode cX11_told 166 = .ok (.aload_n 0, 1) := by decide +kernel
theorem dX11_told_167 : decode cX11_told 167 = .ok (.getfield 167, 3) := by decide +kernel
theorem dX11_told_170 : decode cX11_told 170 = .ok (.ireturn, 1) := by decide +kernel
theorem dX11_told_171 : decode cX11_told 171 = .ok (.aload_n 0, 1) := by decide +kernel
theorem dX11_told_172 : decode cX11_told 172 = .ok (.getfield 170, 3) := by decide +kernel
theorem dX11_told_175 : decode cX11_told 175 = .ok (.ireturn, 1) := by decide +kernel
theorem dX11_told_176 : decode cX11_told 176 = .ok (.aload_n 0, 1) := by decide +kernel
theorem dX11_told_177 : decode cX11_told 177 = .ok (.invokevirtual 192, 3) := by decide +kernel
theorem dX11_told_180 : decode cX11_told 180 = .ok (.ireturn, 1) := by decide +kernel
theorem dX11_told_181 : decode cX11_told 181 = .ok (.aload_n 0, 1) := by decide +kernel
theorem dX11_told_182 : decode cX11_told 182 = .ok (.getfield 173, 3) := by decide +kernel
theorem dX11_told_185 : decode cX11_told 185 = .ok (.ireturn, 1) := by decide +kernel
theorem dX11_told_186 : decode cX11_told 186 = .ok (.aload_n 0, 1) := by decide +kernel
theorem dX11_told_187 : decode cX11_told 187 = .ok (.getfield 176, 3) := by decide +kernel
theorem dX11_told_190 : decode cX11_told 190 = .ok (.ireturn, 1) := by decide +kernel
theorem dX11_told_191 : decode cX11_told 191 = .ok (.ldc 112, 2) := by decide +kernel
theorem dX11_told_193 : decode cX11_told 193 = .ok (.ireturn, 1) := by decide +kernel
theorem bX11_told_0 {κ : gK} {M : MM} {Q : Int32 → MM → Prop} (l1 : Int32)
    (h : ((l1 = (0 : Int32) → Q (M 119 0) M) ∧ (l1 = (1 : Int32) → Q (M 119 1) M) ∧ (l1 = (2 : Int32) → Q (M 119 2) M) ∧ (l1 = (3 : Int32) → Q (M 119 8) M) ∧ (l1 = (4 : Int32) → Q (M 122 0) M) ∧ (l1 = (5 : Int32) → Cl κ mX11_isTown [.ref 119] M (fun r1 M1 => ((r1 = 0 → G κ mX11_told 128 [.null, .null] [.int (0 : Int32)] M1 Q) ∧ (¬ r1 = 0 → Cl κ mX11_lightOf [.ref 119, .int (M1 122 0)] M1 (fun r2 M2 => G κ mX11_told 128 [.null, .null] [.int r2] M2 Q))))) ∧ (l1 = (6 : Int32) → Q (M 122 1) M) ∧ (l1 = (7 : Int32) → Cl κ mX11_on [.ref 119, .int (M 122 1), .int (M 119 1)] M (fun r3 M3 => Q r3 M3)) ∧ (l1 = (8 : Int32) → Cl κ mX11_tornOnes [.ref 119] M (fun r4 M4 => Q r4 M4)) ∧ (l1 = (9 : Int32) → Cl κ mX11_cover [.ref 119] M (fun r5 M5 => Q r5 M5)) ∧ (l1 = (10 : Int32) → Cl κ mX11_fullest [.ref 119] M (fun r6 M6 => Q r6 M6)) ∧ (l1 = (11 : Int32) → Q (M 119 24) M) ∧ (l1 = (12 : Int32) → Q (M 119 26) M) ∧ (l1 = (13 : Int32) → Cl κ mX11_explained [.ref 119] M (fun r7 M7 => Q r7 M7)) ∧ (l1 = (14 : Int32) → Q (M 119 29) M) ∧ (l1 = (15 : Int32) → Q (M 119 19) M) ∧ ((∀ k : Nat, k ≤ 15 → l1 ≠ nI k) → Q (-1000000002 : Int32) M))) :
    G κ mX11_told 0 [.ref 119, .int l1] [] M Q := by
  refine g_iload_n (i := 1) dX11_told_0 rfl rfl ?_
  refine g_tab (hi := 15) (dt := 191) (fun k => ([80, 85, 90, 95, 100, 107, 129, 136, 151, 156, 161, 166, 171, 176, 181, 186] : List Nat).getD k 0) dX11_told_1 (by decide) (by decide) rfl (fun k hk hx => ?_) (fun hx => ?_)
  · rcases (show k = 0 ∨ k = 1 ∨ k = 2 ∨ k = 3 ∨ k = 4 ∨ k = 5 ∨ k = 6 ∨ k = 7 ∨ k = 8 ∨ k = 9 ∨ k = 10 ∨ k = 11 ∨ k = 12 ∨ k = 13 ∨ k = 14 ∨ k = 15 by omega) with rfl | rfl | rfl | rfl | rfl | rfl | rfl | rfl | rfl | rfl | rfl | rfl | rfl | rfl | rfl | rfl
    · replace h := h.1 hx
      show G κ mX11_told 80 _ _ _ _
      refine g_aload_n (i := 0) dX11_told_80 rfl rfl ?_
      refine gf_RX11_67 rfl dX11_told_81 sh_119 ?_
      exact g_iret dX11_told_84 rfl h
    · replace h := h.2.1 hx
      show G κ mX11_told 85 _ _ _ _
      refine g_aload_n (i := 0) dX11_told_85 rfl rfl ?_
      refine gf_RX11_164 rfl dX11_told_86 sh_119 ?_
      exact g_iret dX11_told_89 rfl h
    · replace h := h.2.2.1 hx
      show G κ mX11_told 90 _ _ _ _
      refine g_aload_n (i := 0) dX11_told_90 rfl rfl ?_
      refine gf_RX11_60 rfl dX11_told_91 sh_119 ?_
      exact g_iret dX11_told_94 rfl h
    · replace h := h.2.2.2.1 hx
      show G κ mX11_told 95 _ _ _ _
      refine g_aload_n (i := 0) dX11_told_95 rfl rfl ?_
      refine gf_RX11_113 rfl dX11_told_96 sh_119 ?_
      exact g_iret dX11_told_99 rfl h
    · replace h := h.2.2.2.2.1 hx
      show G κ mX11_told 100 _ _ _ _
      refine g_aload_n (i := 0) dX11_told_100 rfl rfl ?_
      refine gf_RX11_16 rfl dX11_told_101 sh_119 ?_
      refine g_iconst (v := (0 : Int32)) dX11_told_104 (by decide) ?_
      refine g_iald dX11_told_105 sh_122 (by unfold vp_in; decide) ?_
      exact g_iret dX11_told_106 rfl h
    · replace h := h.2.2.2.2.2.1 hx
      show G κ mX11_told 107 _ _ _ _
      refine g_aload_n (i := 0) dX11_told_107 rfl rfl ?_
      refine gc_RX11_179 rfl (Nat.le_of_ble_eq_true rfl) dX11_told_108 sh_119 (Nat.le_of_ble_eq_true rfl) ?_
      refine Cl.mono h (fun r1 M1 h => ?_)
      refine g_if_eq (tgt := 127) dX11_told_111 rfl ⟨fun hc => ?_, fun hc => ?_⟩
      · replace h := h.1 hc
        refine g_iconst (v := (0 : Int32)) dX11_told_127 (by decide) ?_
        exact g_sub _ (sub_c (Or.inl rfl) (sub_c (Or.inl rfl) sub_n)) h
      · replace h := h.2 hc
        refine g_aload_n (i := 0) dX11_told_114 rfl rfl ?_
        refine g_aload_n (i := 0) dX11_told_115 rfl rfl ?_
        refine gf_RX11_16 rfl dX11_told_116 sh_119 ?_
        refine g_iconst (v := (0 : Int32)) dX11_told_119 (by decide) ?_
        refine g_iald dX11_told_120 sh_122 (by unfold vp_in; decide) ?_
        refine gc_RX11_89 rfl (Nat.le_of_ble_eq_true rfl) dX11_told_121 sh_119 (Nat.le_of_ble_eq_true rfl) ?_
        refine Cl.mono h (fun r2 M2 h => ?_)
        refine g_goto (tgt := 128) dX11_told_124 rfl ?_
        exact g_sub _ (sub_c (Or.inl rfl) (sub_c (Or.inl rfl) sub_n)) h
    · replace h := h.2.2.2.2.2.2.1 hx
      show G κ mX11_told 129 _ _ _ _
      refine g_aload_n (i := 0) dX11_told_129 rfl rfl ?_
      refine gf_RX11_16 rfl dX11_told_130 sh_119 ?_
      refine g_iconst (v := (1 : Int32)) dX11_told_133 (by decide) ?_
      refine g_iald dX11_told_134 sh_122 (by unfold vp_in; decide) ?_
      exact g_iret dX11_told_135 rfl h
    · replace h := h.2.2.2.2.2.2.2.1 hx
      show G κ mX11_told 136 _ _ _ _
      refine g_aload_n (i := 0) dX11_told_136 rfl rfl ?_
      refine g_aload_n (i := 0) dX11_told_137 rfl rfl ?_
      refine gf_RX11_16 rfl dX11_told_138 sh_119 ?_
      refine g_iconst (v := (1 : Int32)) dX11_told_141 (by decide) ?_
      refine g_iald dX11_told_142 sh_122 (by unfold vp_in; decide) ?_
      refine g_aload_n (i := 0) dX11_told_143 rfl rfl ?_
      refine gf_RX11_164 rfl dX11_told_144 sh_119 ?_
      refine gc_RX11_77 rfl (Nat.le_of_ble_eq_true rfl) dX11_told_147 sh_119 (Nat.le_of_ble_eq_true rfl) ?_
      refine Cl.mono h (fun r3 M3 h => ?_)
      exact g_iret dX11_told_150 rfl h
    · replace h := h.2.2.2.2.2.2.2.2.1 hx
      show G κ mX11_told 151 _ _ _ _
      refine g_aload_n (i := 0) dX11_told_151 rfl rfl ?_
      refine gc_RX11_183 rfl (Nat.le_of_ble_eq_true rfl) dX11_told_152 sh_119 (Nat.le_of_ble_eq_true rfl) ?_
      refine Cl.mono h (fun r4 M4 h => ?_)
      exact g_iret dX11_told_155 rfl h
    · replace h := h.2.2.2.2.2.2.2.2.2.1 hx
      show G κ mX11_told 156 _ _ _ _
      refine g_aload_n (i := 0) dX11_told_156 rfl rfl ?_
      refine gc_RX11_186 rfl (Nat.le_of_ble_eq_true rfl) dX11_told_157 sh_119 (Nat.le_of_ble_eq_true rfl) ?_
      refine Cl.mono h (fun r5 M5 h => ?_)
      exact g_iret dX11_told_160 rfl h
    · replace h := h.2.2.2.2.2.2.2.2.2.2.1 hx
      show G κ mX11_told 161 _ _ _ _
      refine g_aload_n (i := 0) dX11_told_161 rfl rfl ?_
      refine gc_RX11_189 rfl (Nat.le_of_ble_eq_true rfl) dX11_told_162 sh_119 (Nat.le_of_ble_eq_true rfl) ?_
      refine Cl.mono h (fun r6 M6 h => ?_)
      exact g_iret dX11_told_165 rfl h
    · replace h := h.2.2.2.2.2.2.2.2.2.2.2.1 hx
      show G κ mX11_told 166 _ _ _ _
      refine g_aload_n (i := 0) dX11_told_166 rfl rfl ?_
      refine gf_RX11_167 rfl dX11_told_167 sh_119 ?_
      exact g_iret dX11_told_170 rfl h
    · replace h := h.2.2.2.2.2.2.2.2.2.2.2.2.1 hx
      show G κ mX11_told 171 _ _ _ _
      refine g_aload_n (i := 0) dX11_told_171 rfl rfl ?_
      refine gf_RX11_170 rfl dX11_told_172 sh_119 ?_
      exact g_iret dX11_told_175 rfl h
    · replace h := h.2.2.2.2.2.2.2.2.2.2.2.2.2.1 hx
      show G κ mX11_told 176 _ _ _ _
      refine g_aload_n (i := 0) dX11_told_176 rfl rfl ?_
      refine gc_RX11_192 rfl (Nat.le_of_ble_eq_true rfl) dX11_told_177 sh_119 (Nat.le_of_ble_eq_true rfl) ?_
      refine Cl.mono h (fun r7 M7 h => ?_)
      exact g_iret dX11_told_180 rfl h
    · replace h := h.2.2.2.2.2.2.2.2.2.2.2.2.2.2.1 hx
      show G κ mX11_told 181 _ _ _ _
      refine g_aload_n (i := 0) dX11_told_181 rfl rfl ?_
      refine gf_RX11_173 rfl dX11_told_182 sh_119 ?_
      exact g_iret dX11_told_185 rfl h
    · replace h := h.2.2.2.2.2.2.2.2.2.2.2.2.2.2.2.1 hx
      show G κ mX11_told 186 _ _ _ _
      refine g_aload_n (i := 0) dX11_told_186 rfl rfl ?_
      refine gf_RX11_176 rfl dX11_told_187 sh_119 ?_
      exact g_iret dX11_told_190 rfl h
  · replace h := h.2.2.2.2.2.2.2.2.2.2.2.2.2.2.2.2 hx
    refine g_ldc dX11_told_191 wt_873 ?_
    exact g_iret dX11_told_193 rfl h
theorem bX11_told_128 {κ : gK} {M : MM} {Q : Int32 → MM → Prop} (s0 : Int32)
    (h : Q s0 M) :
    G κ mX11_told 128 [.null, .null] [.int s0] M Q := by
  exact g_iret dX11_told_128 rfl h
theorem eX11_told {κ : gK} {M : MM} {Q : Int32 → MM → Prop} (l1 : Int32)
    (h : G κ mX11_told 0 [.ref 119, .int l1] [] M Q) : Cl κ mX11_told [.ref 119, .int l1] M Q := g_entry 0 pl_X11_told (Nat.le_of_ble_eq_true rfl) (L := [.ref 119, .int l1]) rfl (g_sub _ (sub_c (Or.inr rfl) (sub_c (Or.inr rfl) sub_n)) h)
