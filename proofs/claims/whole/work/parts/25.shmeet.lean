theorem dX3_add_0 : decode cX3_add 0 = .ok (.aload_n 0, 1) := by decide +kernel
theorem dX3_add_1 : decode cX3_add 1 = .ok (.getfield 28, 3) := by decide +kernel
theorem dX3_add_4 : decode cX3_add 4 = .ok (.bipush 10, 2) := by decide +kernel
theorem dX3_add_6 : decode cX3_add 6 = .ok (.if_icmp .ge 43, 3) := by decide +kernel
theorem dX3_add_9 : decode cX3_add 9 = .ok (.aload_n 0, 1) := by decide +kernel
theorem dX3_add_10 : decode cX3_add 10 = .ok (.getfield 9, 3) := by decide +kernel
theorem dX3_add_13 : decode cX3_add 13 = .ok (.aload_n 0, 1) := by decide +kernel
theorem dX3_add_14 : decode cX3_add 14 = .ok (.getfield 28, 3) := by decide +kernel
theorem dX3_add_17 : decode cX3_add 17 = .ok (.iload_n 1, 1) := by decide +kernel
theorem dX3_add_18 : decode cX3_add 18 = .ok (.iastore, 1) := by decide +kernel
theorem dX3_add_19 : decode cX3_add 19 = .ok (.aload_n 0, 1) := by decide +kernel
theorem dX3_add_20 : decode cX3_add 20 = .ok (.getfield 15, 3) := by decide +kernel
theorem dX3_add_23 : decode cX3_add 23 = .ok (.aload_n 0, 1) := by decide +kernel
theorem dX3_add_24 : decode cX3_add 24 = .ok (.getfield 28, 3) := by decide +kernel
theorem dX3_add_27 : decode cX3_add 27 = .ok (.iload_n 2, 1) := by decide +kernel
theorem dX3_add_28 : decode cX3_add 28 = .ok (.iastore, 1) := by decide +kernel
theorem dX3_add_29 : decode cX3_add 29 = .ok (.aload_n 0, 1) := by decide +kernel
theorem dX3_add_30 : decode cX3_add 30 = .ok (.getfield 18, 3) := by decide +kernel
theorem dX3_add_33 : decode cX3_add 33 = .ok (.aload_n 0, 1) := by decide +kernel
theorem dX3_add_34 : decode cX3_add 34 = .ok (.getfield 28, 3) := by decide +kernel
theorem dX3_add_37 : decode cX3_add 37 = .ok (.iload_n 3, 1) := by decide +kernel
theorem dX3_add_38 : decode cX3_add 38 = .ok (.bastore, 1) := by decide +kernel
theorem dX3_add_39 : decode cX3_add 39 = .ok (.aload_n 0, 1) := by decide +kernel
theorem dX3_add_40 : decode cX3_add 40 = .ok (.dup, 1) := by decide +kernel
theorem dX3_add_41 : decode cX3_add 41 = .ok (.getfield 28, 3) := by decide +kernel
theorem dX3_add_44 : decode cX3_add 44 = .ok (.iconst 1, 1) := by decide +kernel
theorem dX3_add_45 : decode cX3_add 45 = .ok (.iadd, 1) := by decide +kernel
theorem dX3_add_46 : decode cX3_add 46 = .ok (.putfield 28, 3) := by decide +kernel
theorem dX3_add_49 : decode cX3_add 49 = .ok (.aload_n 0, 1) := by decide +kernel
theorem dX3_add_50 : decode cX3_add 50 = .ok (.getfield 28, 3) := by decide +kernel
theorem dX3_add_53 : decode cX3_add 53 = .ok (.ireturn, 1) := by decide +kernel
theorem bX3_add_0 {κ : gK} {M : MM} {Q : Int32 → MM → Prop} (l1 : Int32) (l2 : Int32) (l3 : Int32)
    (h : (((10 : Int32) ≤ (M 109 5) → G κ mX3_add 49 [.ref 109, .null, .null, .null] [] M Q) ∧ (¬ (10 : Int32) ≤ (M 109 5) → (vp_in (M 109 5) 10) ∧ (∀ M1 : MM, M1 = (pt M 110 ((M 109 5)).toNatClampNeg l1) → ((vp_in (M1 109 5) 10) ∧ (∀ M2 : MM, M2 = (pt M1 111 ((M1 109 5)).toNatClampNeg l2) → ((vp_in (M2 109 5) 10) ∧ (∀ M3 : MM, M3 = (pt M2 112 ((M2 109 5)).toNatClampNeg (vp_nar .boolean l3)) → (∀ M4 : MM, M4 = (pt M3 109 5 ((M3 109 5) + (1 : Int32))) → (G κ mX3_add 49 [.ref 109, .null, .null, .null] [] M4 Q)))))))))) :
    G κ mX3_add 0 [.ref 109, .int l1, .int l2, .int l3] [] M Q := by
  refine g_aload_n (i := 0) dX3_add_0 rfl rfl ?_
  refine gf_RX3_28 rfl dX3_add_1 sh_109 ?_
  refine g_bipush (v := (10 : Int32)) dX3_add_4 (by decide) ?_
  refine g_icmp_ge (tgt := 49) dX3_add_6 rfl ⟨fun hc => ?_, fun hc => ?_⟩
  · replace h := h.1 hc
    exact g_sub _ (sub_c (Or.inr rfl) (sub_c (Or.inl rfl) (sub_c (Or.inl rfl) (sub_c (Or.inl rfl) sub_n)))) h
  · replace h := h.2 hc
    refine g_aload_n (i := 0) dX3_add_9 rfl rfl ?_
    refine gf_RX3_9 rfl dX3_add_10 sh_109 ?_
    refine g_aload_n (i := 0) dX3_add_13 rfl rfl ?_
    refine gf_RX3_28 rfl dX3_add_14 sh_109 ?_
    refine g_iload_n (i := 1) dX3_add_17 rfl rfl ?_
    have hv1 := h.1; replace h := h.2
    refine g_iastP dX3_add_18 sh_110 hv1 ?_
    refine g_nmM (fun M1 hM1 => ?_); replace h := h M1 hM1
    refine g_aload_n (i := 0) dX3_add_19 rfl rfl ?_
    refine gf_RX3_15 rfl dX3_add_20 sh_109 ?_
    refine g_aload_n (i := 0) dX3_add_23 rfl rfl ?_
    refine gf_RX3_28 rfl dX3_add_24 sh_109 ?_
    refine g_iload_n (i := 2) dX3_add_27 rfl rfl ?_
    have hv2 := h.1; replace h := h.2
    refine g_iastP dX3_add_28 sh_111 hv2 ?_
    refine g_nmM (fun M2 hM2 => ?_); replace h := h M2 hM2
    refine g_aload_n (i := 0) dX3_add_29 rfl rfl ?_
    refine gf_RX3_18 rfl dX3_add_30 sh_109 ?_
    refine g_aload_n (i := 0) dX3_add_33 rfl rfl ?_
    refine gf_RX3_28 rfl dX3_add_34 sh_109 ?_
    refine g_iload_n (i := 3) dX3_add_37 rfl rfl ?_
    have hv3 := h.1; replace h := h.2
    refine g_zastP dX3_add_38 sh_112 hv3 ?_
    refine g_nmM (fun M3 hM3 => ?_); replace h := h M3 hM3
    refine g_aload_n (i := 0) dX3_add_39 rfl rfl ?_
    refine g_dup dX3_add_40 rfl ?_
    refine gf_RX3_28 rfl dX3_add_41 sh_109 ?_
    refine g_iconst (v := (1 : Int32)) dX3_add_44 (by decide) ?_
    refine g_iadd dX3_add_45 ?_
    refine gp_RX3_28 rfl dX3_add_46 sh_109 ?_
    refine g_nmM (fun M4 hM4 => ?_); replace h := h M4 hM4
    exact g_sub _ (sub_c (Or.inr rfl) (sub_c (Or.inl rfl) (sub_c (Or.inl rfl) (sub_c (Or.inl rfl) sub_n)))) h
theorem bX3_add_49 {κ : gK} {M : MM} {Q : Int32 → MM → Prop} 
    (h : Q (M 109 5) M) :
    G κ mX3_add 49 [.ref 109, .null, .null, .null] [] M Q := by
  refine g_aload_n (i := 0) dX3_add_49 rfl rfl ?_
  refine gf_RX3_28 rfl dX3_add_50 sh_109 ?_
  exact g_iret dX3_add_53 rfl h
theorem eX3_add {κ : gK} {M : MM} {Q : Int32 → MM → Prop} (l1 : Int32) (l2 : Int32) (l3 : Int32)
    (h : G κ mX3_add 0 [.ref 109, .int l1, .int l2, .int l3] [] M Q) : Cl κ mX3_add [.ref 109, .int l1, .int l2, .int l3] M Q := g_entry 0 pl_X3_add (Nat.le_of_ble_eq_true rfl) (L := [.ref 109, .int l1, .int l2, .int l3]) rfl (g_sub _ (sub_c (Or.inr rfl) (sub_c (Or.inr rfl) (sub_c (Or.inr rfl) (sub_c (Or.inr rfl) sub_n)))) h)
theorem dX3_explained_0 : decode cX3_explained 0 = .ok (.iconst 1, 1) := by decide +kernel
theorem dX3_explained_1 : decode cX3_explained 1 = .ok (.iload_n 1, 1) := by decide +kernel
theorem dX3_explained_2 : decode cX3_explained 2 = .ok (.ishl, 1) := by decide +kernel
theorem dX3_explained_3 : decode cX3_explained 3 = .ok (.iconst 1, 1) := by decide +kernel
theorem dX3_explained_4 : decode cX3_explained 4 = .ok (.isub, 1) := by decide +kernel
theorem dX3_explained_5 : decode cX3_explained 5 = .ok (.istore_n 2, 1) := by decide +kernel
theorem dX3_explained_6 : decode cX3_explained 6 = .ok (.aload_n 0, 1) := by decide +kernel
theorem dX3_explained_7 : decode cX3_explained 7 = .ok (.getfield 25, 3) := by decide +kernel
theorem dX3_explained_10 : decode cX3_explained 10 = .ok (.iconst 0, 1) := by decide +kernel
theorem dX3_explained_11 : decode cX3_explained 11 = .ok (.iconst 0, 1) := by decide +kernel
theorem dX3_explained_12 : decode cX3_explained 12 = .ok (.iastore, 1) := by decide +kernel
theorem dX3_explained_13 : decode cX3_explained 13 = .ok (.iconst 1, 1) := by decide +kernel
theorem dX3_explained_14 : decode cX3_explained 14 = .ok (.istore_n 3, 1) := by decide +kernel
theorem dX3_explained_15 : decode cX3_explained 15 = .ok (.iload_n 3, 1) := by decide +kernel
theorem dX3_explained_16 : decode cX3_explained 16 = .ok (.iload_n 2, 1) := by decide +kernel
theorem dX3_explained_17 : decode cX3_explained 17 = .ok (.if_icmp .gt 31, 3) := by decide +kernel
theorem dX3_explained_20 : decode cX3_explained 20 = .ok (.aload_n 0, 1) := by decide +kernel
theorem dX3_explained_21 : decode cX3_explained 21 = .ok (.getfield 22, 3) := by decide +kernel
theorem dX3_explained_24 : decode cX3_explained 24 = .ok (.iload_n 3, 1) := by decide +kernel
theorem dX3_explained_25 : decode cX3_explained 25 = .ok (.aload_n 0, 1) := by decide +kernel
theorem dX3_explained_26 : decode cX3_explained 26 = .ok (.iload_n 3, 1) := by decide +kernel
theorem dX3_explained_27 : decode cX3_explained 27 = .ok (.invokevirtual 32, 3) := by decide +kernel
theorem dX3_explained_30 : decode cX3_explained 30 = .ok (.bastore, 1) := by decide +kernel
theorem dX3_explained_31 : decode cX3_explained 31 = .ok (.aload_n 0, 1) := by decide +kernel
theorem dX3_explained_32 : decode cX3_explained 32 = .ok (.getfield 25, 3) := by decide +kernel
theorem dX3_explained_35 : decode cX3_explained 35 = .ok (.iload_n 3, 1) := by decide +kernel
theorem dX3_explained_36 : decode cX3_explained 36 = .ok (.aload_n 0, 1) := by decide +kernel
theorem dX3_explained_37 : decode cX3_explained 37 = .ok (.iload_n 3, 1) := by decide +kernel
theorem dX3_explained_38 : decode cX3_explained 38 = .ok (.invokevirtual 36, 3) := by decide +kernel
theorem dX3_explained_41 : decode cX3_explained 41 = .ok (.iastore, 1) := by decide +kernel
theorem dX3_explained_42 : decode cX3_explained 42 = .ok (.iinc 3 1, 3) := by decide +kernel
theorem dX3_explained_45 : decode cX3_explained 45 = .ok (.goto (-30), 3) := by decide +kernel
theorem dX3_explained_48 : decode cX3_explained 48 = .ok (.aload_n 0, 1) := by decide +kernel
theorem dX3_explained_49 : decode cX3_explained 49 = .ok (.getfield 25, 3) := by decide +kernel
theorem dX3_explained_52 : decode cX3_explained 52 = .ok (.iload_n 2, 1) := by decide +kernel
theorem dX3_explained_53 : decode cX3_explained 53 = .ok (.iaload, 1) := by decide +kernel
theorem dX3_explained_54 : decode cX3_explained 54 = .ok (.bipush 8, 2) := by decide +kernel
theorem dX3_explained_56 : decode cX3_explained 56 = .ok (.if_icmp .le 7, 3) := by decide +kernel
theorem dX3_explained_59 : decode cX3_explained 59 = .ok (.iconst (-1), 1) := by decide +kernel
theorem dX3_explained_60 : decode cX3_explained 60 = .ok (.goto 9, 3) := by decide +kernel
theorem dX3_explained_63 : decode cX3_explained 63 = .ok (.aload_n 0, 1) := by decide +kernel
theorem dX3_explained_64 : decode cX3_explained 64 = .ok (.getfield 25, 3) := by decide +kernel
theorem dX3_explained_67 : decode cX3_explained 67 = .ok (.iload_n 2, 1) := by decide +kernel
theorem dX3_explained_68 : decode cX3_explained 68 = .ok (.iaload, 1) := by decide +kernel
theorem dX3_explained_69 : decode cX3_explained 69 = .ok (.ireturn, 1) := by decide +kernel
theorem bX3_explained_0 {κ : gK} {M : MM} {Q : Int32 → MM → Prop} (l1 : Int32)
    (h : ∀ v1 : Int32, v1 = ((jshl (1 : Int32) l1) - (1 : Int32)) → (∀ M2 : MM, M2 = (pt M 114 0 (0 : Int32)) → (G κ mX3_explained 15 [.ref 109, .null, .int v1, .int (1 : Int32)] [] M2 Q))) :
    G κ mX3_explained 0 [.ref 109, .int l1, .null, .null] [] M Q := by
  refine g_iconst (v := (1 : Int32)) dX3_explained_0 (by decide) ?_
  refine g_iload_n (i := 1) dX3_explained_1 rfl rfl ?_
  refine g_ishl dX3_explained_2 ?_
  refine g_iconst (v := (1 : Int32)) dX3_explained_3 (by decide) ?_
  refine g_isub dX3_explained_4 ?_
  refine lv_nm (fun v1 hn1 => ?_) (x := ((jshl (1 : Int32) l1) - (1 : Int32)))
  replace h := h v1 hn1
  refine g_istore_n (i := 2) (L' := [.ref 109, .int l1, .int v1, .null]) dX3_explained_5 rfl (Nat.le_of_ble_eq_true rfl) rfl rfl ?_
  refine g_aload_n (i := 0) dX3_explained_6 rfl rfl ?_
  refine gf_RX3_25 rfl dX3_explained_7 sh_109 ?_
  refine g_iconst (v := (0 : Int32)) dX3_explained_10 (by decide) ?_
  refine g_iconst (v := (0 : Int32)) dX3_explained_11 (by decide) ?_
  refine g_iastP dX3_explained_12 sh_114 (by unfold vp_in; decide) ?_
  refine g_nmM (fun M2 hM2 => ?_); replace h := h M2 hM2
  refine g_iconst (v := (1 : Int32)) dX3_explained_13 (by decide) ?_
  refine g_istore_n (i := 3) (L' := [.ref 109, .int l1, .int v1, .int (1 : Int32)]) dX3_explained_14 rfl (Nat.le_of_ble_eq_true rfl) rfl rfl ?_
  exact g_sub _ (sub_c (Or.inr rfl) (sub_c (Or.inl rfl) (sub_c (Or.inr rfl) (sub_c (Or.inr rfl) sub_n)))) h
theorem bX3_explained_15 {κ : gK} {M : MM} {Q : Int32 → MM → Prop} (l2 : Int32) (l3 : Int32)
    (h : ((l2 < l3 → (vp_in l2 256) ∧ ((((M 114 (l2).toNatClampNeg) ≤ (8 : Int32) → G κ mX3_explained 69 [.null, .null, .null, .null] [.int (M 114 (l2).toNatClampNeg)] M Q) ∧ (¬ (M 114 (l2).toNatClampNeg) ≤ (8 : Int32) → G κ mX3_explained 69 [.null, .null, .null, .null] [.int (-1 : Int32)] M Q)))) ∧ (¬ l2 < l3 → Cl κ mX3_canBeOneLayer [.ref 109, .int l3] M (fun r1 M1 => (vp_in l3 256) ∧ (∀ M2 : MM, M2 = (pt M1 113 (l3).toNatClampNeg (vp_nar .boolean r1)) → (Cl κ mX3_fewestFor [.ref 109, .int l3] M2 (fun r3 M3 => ∀ M4 : MM, M4 = (pt M3 114 (l3).toNatClampNeg r3) → (G κ mX3_explained 15 [.ref 109, .null, .int l2, .int (l3 + 1)] [] M4 Q)))))))) :
    G κ mX3_explained 15 [.ref 109, .null, .int l2, .int l3] [] M Q := by
  refine g_iload_n (i := 3) dX3_explained_15 rfl rfl ?_
  refine g_iload_n (i := 2) dX3_explained_16 rfl rfl ?_
  refine g_icmp_gt (tgt := 48) dX3_explained_17 rfl ⟨fun hc => ?_, fun hc => ?_⟩
  · replace h := h.1 hc
    refine g_aload_n (i := 0) dX3_explained_48 rfl rfl ?_
    refine gf_RX3_25 rfl dX3_explained_49 sh_109 ?_
    refine g_iload_n (i := 2) dX3_explained_52 rfl rfl ?_
    have hv1 := h.1; replace h := h.2
    refine g_iald dX3_explained_53 sh_114 hv1 ?_
    refine g_bipush (v := (8 : Int32)) dX3_explained_54 (by decide) ?_
    refine g_icmp_le (tgt := 63) dX3_explained_56 rfl ⟨fun hc => ?_, fun hc => ?_⟩
    · replace h := h.1 hc
      refine g_aload_n (i := 0) dX3_explained_63 rfl rfl ?_
      refine gf_RX3_25 rfl dX3_explained_64 sh_109 ?_
      refine g_iload_n (i := 2) dX3_explained_67 rfl rfl ?_
      refine g_iald dX3_explained_68 sh_114 hv1 ?_
      exact g_sub _ (sub_c (Or.inl rfl) (sub_c (Or.inr rfl) (sub_c (Or.inl rfl) (sub_c (Or.inl rfl) sub_n)))) h
    · replace h := h.2 hc
      refine g_iconst (v := (-1 : Int32)) dX3_explained_59 (by decide) ?_
      refine g_goto (tgt := 69) dX3_explained_60 rfl ?_
      exact g_sub _ (sub_c (Or.inl rfl) (sub_c (Or.inr rfl) (sub_c (Or.inl rfl) (sub_c (Or.inl rfl) sub_n)))) h
  · replace h := h.2 hc
    refine g_aload_n (i := 0) dX3_explained_20 rfl rfl ?_
    refine gf_RX3_22 rfl dX3_explained_21 sh_109 ?_
    refine g_iload_n (i := 3) dX3_explained_24 rfl rfl ?_
    refine g_aload_n (i := 0) dX3_explained_25 rfl rfl ?_
    refine g_iload_n (i := 3) dX3_explained_26 rfl rfl ?_
    refine gc_RX3_32 rfl (Nat.le_of_ble_eq_true rfl) dX3_explained_27 sh_109 (Nat.le_of_ble_eq_true rfl) ?_
    refine Cl.mono h (fun r1 M1 h => ?_)
    have hv2 := h.1; replace h := h.2
    refine g_zastP dX3_explained_30 sh_113 hv2 ?_
    refine g_nmM (fun M2 hM2 => ?_); replace h := h M2 hM2
    refine g_aload_n (i := 0) dX3_explained_31 rfl rfl ?_
    refine gf_RX3_25 rfl dX3_explained_32 sh_109 ?_
    refine g_iload_n (i := 3) dX3_explained_35 rfl rfl ?_
    refine g_aload_n (i := 0) dX3_explained_36 rfl rfl ?_
    refine g_iload_n (i := 3) dX3_explained_37 rfl rfl ?_
    refine gc_RX3_36 rfl (Nat.le_of_ble_eq_true rfl) dX3_explained_38 sh_109 (Nat.le_of_ble_eq_true rfl) ?_
    refine Cl.mono h (fun r3 M3 h => ?_)
    refine g_iastP dX3_explained_41 sh_114 hv2 ?_
    refine g_nmM (fun M4 hM4 => ?_); replace h := h M4 hM4
    refine g_iinc (v := (l3 + 1)) (L' := [.ref 109, .null, .int l2, .int (l3 + 1)]) dX3_explained_42 rfl rfl (Nat.le_of_ble_eq_true rfl) rfl rfl ?_
    refine g_goto (tgt := 15) dX3_explained_45 rfl ?_
    exact h
theorem bX3_explained_69 {κ : gK} {M : MM} {Q : Int32 → MM → Prop} (s0 : Int32)
    (h : Q s0 M) :
    G κ mX3_explained 69 [.null, .null, .null, .null] [.int s0] M Q := by
  exact g_iret dX3_explained_69 rfl h
theorem eX3_explained {κ : gK} {M : MM} {Q : Int32 → MM → Prop} (l1 : Int32)
    (h : G κ mX3_explained 0 [.ref 109, .int l1, .null, .null] [] M Q) : Cl κ mX3_explained [.ref 109, .int l1] M Q := g_entry 2 pl_X3_explained (Nat.le_of_ble_eq_true rfl) (L := [.ref 109, .int l1, .null, .null]) rfl (g_sub _ (sub_c (Or.inr rfl) (sub_c (Or.inr rfl) (sub_c (Or.inr rfl) (sub_c (Or.inr rfl) sub_n)))) h)
theorem dX3_canBeOneLayer_0 : decode cX3_canBeOneLayer 0 = .ok (.iconst 0, 1) := by decide +kernel
theorem dX3_canBeOneLayer_1 : decode cX3_canBeOneLayer 1 = .ok (.istore_n 2, 1) := by decide +kernel
theorem dX3_canBeOneLayer_2 : decode cX3_canBeOneLayer 2 = .ok (.iload_n 2, 1) := by decide +kernel
theorem dX3_canBeOneLayer_3 : decode cX3_canBeOneLayer 3 = .ok (.aload_n 0, 1) := by decide +kernel
theorem dX3_canBeOneLayer_4 : decode cX3_canBeOneLayer 4 = .ok (.getfield 28, 3) := by decide +kernel
theorem dX3_canBeOneLayer_7 : decode cX3_canBeOneLayer 7 = .ok (.if_icmp .ge 77, 3) := by decide +kernel
theorem dX3_canBeOneLayer_10 : decode cX3_canBeOneLayer 10 = .ok (.iload_n 1, 1) := by decide +kernel
theorem dX3_canBeOneLayer_11 : decode cX3_canBeOneLayer 11 = .ok (.iconst 1, 1) := by decide +kernel
theorem dX3_canBeOneLayer_12 : decode cX3_canBeOneLayer 12 = .ok (.aload_n 0, 1) := by decide +kernel
theorem dX3_canBeOneLayer_13 : decode cX3_canBeOneLayer 13 = .ok (.getfield 9, 3) := by decide +kernel
theorem dX3_canBeOneLayer_16 : decode cX3_canBeOneLayer 16 = .ok (.iload_n 2, 1) := by decide +kernel
theorem dX3_canBeOneLayer_17 : decode cX3_canBeOneLayer 17 = .ok (.iaload, 1) := by decide +kernel
theorem dX3_canBeOneLayer_18 : decode cX3_canBeOneLayer 18 = .ok (.ishl, 1) := by decide +kernel
theorem dX3_canBeOneLayer_19 : decode cX3_canBeOneLayer 19 = .ok (.iand, 1) := by decide +kernel
theorem dX3_canBeOneLayer_20 : decode cX3_canBeOneLayer 20 = .ok (.ifCond .eq 7, 3) := by decide +kernel
theorem dX3_canBeOneLayer_23 : decode cX3_canBeOneLayer 23 = .ok (.iconst 1, 1) := by decide +kernel
theorem dX3_canBeOneLayer_24 : decode cX3_canBeOneLayer 24 = .ok (.goto 4, 3) := by decide +kernel
theorem dX3_canBeOneLayer_27 : decode cX3_canBeOneLayer 27 = .ok (.iconst 0, 1) := by decide +kernel
theorem dX3_canBeOneLayer_28 : decode cX3_canBeOneLayer 28 = .ok (.istore_n 3, 1) := by decide +kernel
theorem dX3_canBeOneLayer_29 : decode cX3_canBeOneLayer 29 = .ok (.iload_n 1, 1) := by decide +kernel
theorem dX3_canBeOneLayer_30 : decode cX3_canBeOneLayer 30 = .ok (.iconst 1, 1) := by decide +kernel
theorem dX3_canBeOneLayer_31 : decode cX3_canBeOneLayer 31 = .ok (.aload_n 0, 1) := by decide +kernel
theorem dX3_canBeOneLayer_32 : decode cX3_canBeOneLayer 32 = .ok (.getfield 15, 3) := by decide +kernel
theorem dX3_canBeOneLayer_35 : decode cX3_canBeOneLayer 35 = .ok (.iload_n 2, 1) := by decide +kernel
theorem dX3_canBeOneLayer_36 : decode cX3_canBeOneLayer 36 = .ok (.iaload, 1) := by decide +kernel
theorem dX3_canBeOneLayer_37 : decode cX3_canBeOneLayer 37 = .ok (.ishl, 1) := by decide +kernel
theorem dX3_canBeOneLayer_38 : decode cX3_canBeOneLayer 38 = .ok (.iand, 1) := by decide +kernel
theorem dX3_canBeOneLayer_39 : decode cX3_canBeOneLayer 39 = .ok (.ifCond .eq 7, 3) := by decide +kernel
theorem dX3_canBeOneLayer_42 : decode cX3_canBeOneLayer 42 = .ok (.iconst 1, 1) := by decide +kernel
theorem dX3_canBeOneLayer_43 : decode cX3_canBeOneLayer 43 = .ok (.goto 4, 3) := by decide +kernel
theorem dX3_canBeOneLayer_46 : decode cX3_canBeOneLayer 46 = .ok (.iconst 0, 1) := by decide +kernel
theorem dX3_canBeOneLayer_47 : decode cX3_canBeOneLayer 47 = .ok (.istore 4, 2) := by decide +kernel
theorem dX3_canBeOneLayer_49 : decode cX3_canBeOneLayer 49 = .ok (.aload_n 0, 1) := by decide +kernel
theorem dX3_canBeOneLayer_50 : decode cX3_canBeOneLayer 50 = .ok (.getfield 18, 3) := by decide +kernel
theorem dX3_canBeOneLayer_53 : decode cX3_canBeOneLayer 53 = .ok (.iload_n 2, 1) := by decide +kernel
theorem dX3_canBeOneLayer_54 : decode cX3_canBeOneLayer 54 = .ok (.baload, 1) := by decide +kernel
theorem dX3_canBeOneLayer_55 : decode cX3_canBeOneLayer 55 = .ok (.ifCond .eq 12, 3) := by decide +kernel
theorem dX3_canBeOneLayer_58 : decode cX3_canBeOneLayer 58 = .ok (.iload_n 3, 1) := by decide +kernel
theorem dX3_canBeOneLayer_59 : decode cX3_canBeOneLayer 59 = .ok (.iload 4, 2) := by decide +kernel
theorem dX3_canBeOneLayer_61 : decode cX3_canBeOneLayer 61 = .ok (.if_icmp .eq 17, 3) := by decide +kernel
theorem dX3_canBeOneLayer_64 : decode cX3_canBeOneLayer 64 = .ok (.goto 12, 3) := by decide +kernel
theorem dX3_canBeOneLayer_67 : decode cX3_canBeOneLayer 67 = .ok (.iload_n 3, 1) := by decide +kernel
theorem dX3_canBeOneLayer_68 : decode cX3_canBeOneLayer 68 = .ok (.ifCond .eq 10, 3) := by decide +kernel
theorem dX3_canBeOneLayer_71 : decode cX3_canBeOneLayer 71 = .ok (.iload 4, 2) := by decide +kernel
theorem dX3_canBeOneLayer_73 : decode cX3_canBeOneLayer 73 = .ok (.ifCond .eq 5, 3) := by decide +kernel
theorem dX3_canBeOneLayer_76 : decode cX3_canBeOneLayer 76 = .ok (.iconst 0, 1) := by decide +kernel
theorem dX3_canBeOneLayer_77 : decode cX3_canBeOneLayer 77 = .ok (.ireturn, 1) := by decide +kernel
theorem dX3_canBeOneLayer_78 : decode cX3_canBeOneLayer 78 = .ok (.iinc 2 1, 3) := by decide +kernel
theorem dX3_canBeOneLayer_81 : decode cX3_canBeOneLayer 81 = .ok (.goto (-79), 3) := by decide +kernel
theorem dX3_canBeOneLayer_84 : decode cX3_canBeOneLayer 84 = .ok (.iconst 1, 1) := by decide +kernel
theorem dX3_canBeOneLayer_85 : decode cX3_canBeOneLayer 85 = .ok (.ireturn, 1) := by decide +kernel
theorem bX3_canBeOneLayer_0 {κ : gK} {M : MM} {Q : Int32 → MM → Prop} (l1 : Int32)
    (h : G κ mX3_canBeOneLayer 2 [.ref 109, .int l1, .int (0 : Int32), .null, .null] [] M Q) :
    G κ mX3_canBeOneLayer 0 [.ref 109, .int l1, .null, .null, .null] [] M Q := by
  refine g_iconst (v := (0 : Int32)) dX3_canBeOneLayer_0 (by decide) ?_
  refine g_istore_n (i := 2) (L' := [.ref 109, .int l1, .int (0 : Int32), .null, .null]) dX3_canBeOneLayer_1 rfl (Nat.le_of_ble_eq_true rfl) rfl rfl ?_
  exact h
theorem bX3_canBeOneLayer_2 {κ : gK} {M : MM} {Q : Int32 → MM → Prop} (l1 : Int32) (l2 : Int32)
    (h : (((M 109 5) ≤ l2 → Q (1 : Int32) M) ∧ (¬ (M 109 5) ≤ l2 → (vp_in l2 10) ∧ ((((l1 &&& (jshl (1 : Int32) (M 110 (l2).toNatClampNeg))) = 0 → G κ mX3_canBeOneLayer 28 [.ref 109, .int l1, .int l2, .null, .null] [.int (0 : Int32)] M Q) ∧ (¬ (l1 &&& (jshl (1 : Int32) (M 110 (l2).toNatClampNeg))) = 0 → G κ mX3_canBeOneLayer 28 [.ref 109, .int l1, .int l2, .null, .null] [.int (1 : Int32)] M Q)))))) :
    G κ mX3_canBeOneLayer 2 [.ref 109, .int l1, .int l2, .null, .null] [] M Q := by
  refine g_iload_n (i := 2) dX3_canBeOneLayer_2 rfl rfl ?_
  refine g_aload_n (i := 0) dX3_canBeOneLayer_3 rfl rfl ?_
  refine gf_RX3_28 rfl dX3_canBeOneLayer_4 sh_109 ?_
  refine g_icmp_ge (tgt := 84) dX3_canBeOneLayer_7 rfl ⟨fun hc => ?_, fun hc => ?_⟩
  · replace h := h.1 hc
    refine g_iconst (v := (1 : Int32)) dX3_canBeOneLayer_84 (by decide) ?_
    exact g_zret dX3_canBeOneLayer_85 rfl rfl h
  · replace h := h.2 hc
    refine g_iload_n (i := 1) dX3_canBeOneLayer_10 rfl rfl ?_
    refine g_iconst (v := (1 : Int32)) dX3_canBeOneLayer_11 (by decide) ?_
    refine g_aload_n (i := 0) dX3_canBeOneLayer_12 rfl rfl ?_
    refine gf_RX3_9 rfl dX3_canBeOneLayer_13 sh_109 ?_
    refine g_iload_n (i := 2) dX3_canBeOneLayer_16 rfl rfl ?_
    have hv1 := h.1; replace h := h.2
    refine g_iald dX3_canBeOneLayer_17 sh_110 hv1 ?_
    refine g_ishl dX3_canBeOneLayer_18 ?_
    refine g_iand dX3_canBeOneLayer_19 ?_
    refine g_if_eq (tgt := 27) dX3_canBeOneLayer_20 rfl ⟨fun hc => ?_, fun hc => ?_⟩
    · replace h := h.1 hc
      refine g_iconst (v := (0 : Int32)) dX3_canBeOneLayer_27 (by decide) ?_
      exact h
    · replace h := h.2 hc
      refine g_iconst (v := (1 : Int32)) dX3_canBeOneLayer_23 (by decide) ?_
      refine g_goto (tgt := 28) dX3_canBeOneLayer_24 rfl ?_
      exact h
theorem bX3_canBeOneLayer_28 {κ : gK} {M : MM} {Q : Int32 → MM → Prop} (l1 : Int32) (l2 : Int32) (s0 : Int32)
    (h : (vp_in l2 10) ∧ ((((l1 &&& (jshl (1 : Int32) (M 111 (l2).toNatClampNeg))) = 0 → G κ mX3_canBeOneLayer 47 [.ref 109, .int l1, .int l2, .int s0, .null] [.int (0 : Int32)] M Q) ∧ (¬ (l1 &&& (jshl (1 : Int32) (M 111 (l2).toNatClampNeg))) = 0 → G κ mX3_canBeOneLayer 47 [.ref 109, .int l1, .int l2, .int s0, .null] [.int (1 : Int32)] M Q)))) :
    G κ mX3_canBeOneLayer 28 [.ref 109, .int l1, .int l2, .null, .null] [.int s0] M Q := by
  refine g_istore_n (i := 3) (L' := [.ref 109, .int l1, .int l2, .int s0, .null]) dX3_canBeOneLayer_28 rfl (Nat.le_of_ble_eq_true rfl) rfl rfl ?_
  refine g_iload_n (i := 1) dX3_canBeOneLayer_29 rfl rfl ?_
  refine g_iconst (v := (1 : Int32)) dX3_canBeOneLayer_30 (by decide) ?_
  refine g_aload_n (i := 0) dX3_canBeOneLayer_31 rfl rfl ?_
  refine gf_RX3_15 rfl dX3_canBeOneLayer_32 sh_109 ?_
  refine g_iload_n (i := 2) dX3_canBeOneLayer_35 rfl rfl ?_
  have hv1 := h.1; replace h := h.2
  refine g_iald dX3_canBeOneLayer_36 sh_111 hv1 ?_
  refine g_ishl dX3_canBeOneLayer_37 ?_
  refine g_iand dX3_canBeOneLayer_38 ?_
  refine g_if_eq (tgt := 46) dX3_canBeOneLayer_39 rfl ⟨fun hc => ?_, fun hc => ?_⟩
  · replace h := h.1 hc
    refine g_iconst (v := (0 : Int32)) dX3_canBeOneLayer_46 (by decide) ?_
    exact h
  · replace h := h.2 hc
    refine g_iconst (v := (1 : Int32)) dX3_canBeOneLayer_42 (by decide) ?_
    refine g_goto (tgt := 47) dX3_canBeOneLayer_43 rfl ?_
    exact h
theorem bX3_canBeOneLayer_47 {κ : gK} {M : MM} {Q : Int32 → MM → Prop} (l1 : Int32) (l2 : Int32) (l3 : Int32) (s0 : Int32)
    (h : (vp_in l2 10) ∧ ((((M 112 (l2).toNatClampNeg) = 0 → ((l3 = 0 → G κ mX3_canBeOneLayer 78 [.ref 109, .int l1, .int l2, .null, .null] [] M Q) ∧ (¬ l3 = 0 → ((s0 = 0 → G κ mX3_canBeOneLayer 78 [.ref 109, .int l1, .int l2, .null, .null] [] M Q) ∧ (¬ s0 = 0 → G κ mX3_canBeOneLayer 76 [.null, .null, .null, .null, .null] [] M Q))))) ∧ (¬ (M 112 (l2).toNatClampNeg) = 0 → ((l3 = s0 → G κ mX3_canBeOneLayer 78 [.ref 109, .int l1, .int l2, .null, .null] [] M Q) ∧ (¬ l3 = s0 → G κ mX3_canBeOneLayer 76 [.null, .null, .null, .null, .null] [] M Q)))))) :
    G κ mX3_canBeOneLayer 47 [.ref 109, .int l1, .int l2, .int l3, .null] [.int s0] M Q := by
  refine g_istore (i := 4) (L' := [.ref 109, .int l1, .int l2, .int l3, .int s0]) dX3_canBeOneLayer_47 (Nat.le_of_ble_eq_true rfl) rfl rfl ?_
  refine g_aload_n (i := 0) dX3_canBeOneLayer_49 rfl rfl ?_
  refine gf_RX3_18 rfl dX3_canBeOneLayer_50 sh_109 ?_
  refine g_iload_n (i := 2) dX3_canBeOneLayer_53 rfl rfl ?_
  have hv1 := h.1; replace h := h.2
  refine g_zald dX3_canBeOneLayer_54 sh_112 hv1 ?_
  refine g_if_eq (tgt := 67) dX3_canBeOneLayer_55 rfl ⟨fun hc => ?_, fun hc => ?_⟩
  · replace h := h.1 hc
    refine g_iload_n (i := 3) dX3_canBeOneLayer_67 rfl rfl ?_
    refine g_if_eq (tgt := 78) dX3_canBeOneLayer_68 rfl ⟨fun hc => ?_, fun hc => ?_⟩
    · replace h := h.1 hc
      exact g_sub _ (sub_c (Or.inr rfl) (sub_c (Or.inr rfl) (sub_c (Or.inr rfl) (sub_c (Or.inl rfl) (sub_c (Or.inl rfl) sub_n))))) h
    · replace h := h.2 hc
      refine g_iload (i := 4) dX3_canBeOneLayer_71 rfl ?_
      refine g_if_eq (tgt := 78) dX3_canBeOneLayer_73 rfl ⟨fun hc => ?_, fun hc => ?_⟩
      · replace h := h.1 hc
        exact g_sub _ (sub_c (Or.inr rfl) (sub_c (Or.inr rfl) (sub_c (Or.inr rfl) (sub_c (Or.inl rfl) (sub_c (Or.inl rfl) sub_n))))) h
      · replace h := h.2 hc
        exact g_sub _ (sub_c (Or.inl rfl) (sub_c (Or.inl rfl) (sub_c (Or.inl rfl) (sub_c (Or.inl rfl) (sub_c (Or.inl rfl) sub_n))))) h
  · replace h := h.2 hc
    refine g_iload_n (i := 3) dX3_canBeOneLayer_58 rfl rfl ?_
    refine g_iload (i := 4) dX3_canBeOneLayer_59 rfl ?_
    refine g_icmp_eq (tgt := 78) dX3_canBeOneLayer_61 rfl ⟨fun hc => ?_, fun hc => ?_⟩
    · replace h := h.1 hc
      exact g_sub _ (sub_c (Or.inr rfl) (sub_c (Or.inr rfl) (sub_c (Or.inr rfl) (sub_c (Or.inl rfl) (sub_c (Or.inl rfl) sub_n))))) h
    · replace h := h.2 hc
      refine g_goto (tgt := 76) dX3_canBeOneLayer_64 rfl ?_
      exact g_sub _ (sub_c (Or.inl rfl) (sub_c (Or.inl rfl) (sub_c (Or.inl rfl) (sub_c (Or.inl rfl) (sub_c (Or.inl rfl) sub_n))))) h
theorem bX3_canBeOneLayer_76 {κ : gK} {M : MM} {Q : Int32 → MM → Prop} 
    (h : Q (0 : Int32) M) :
    G κ mX3_canBeOneLayer 76 [.null, .null, .null, .null, .null] [] M Q := by
  refine g_iconst (v := (0 : Int32)) dX3_canBeOneLayer_76 (by decide) ?_
  exact g_zret dX3_canBeOneLayer_77 rfl rfl h
theorem bX3_canBeOneLayer_78 {κ : gK} {M : MM} {Q : Int32 → MM → Prop} (l1 : Int32) (l2 : Int32)
    (h : G κ mX3_canBeOneLayer 2 [.ref 109, .int l1, .int (l2 + 1), .null, .null] [] M Q) :
    G κ mX3_canBeOneLayer 78 [.ref 109, .int l1, .int l2, .null, .null] [] M Q := by
  refine g_iinc (v := (l2 + 1)) (L' := [.ref 109, .int l1, .int (l2 + 1), .null, .null]) dX3_canBeOneLayer_78 rfl rfl (Nat.le_of_ble_eq_true rfl) rfl rfl ?_
  refine g_goto (tgt := 2) dX3_canBeOneLayer_81 rfl ?_
  exact h
theorem eX3_canBeOneLayer {κ : gK} {M : MM} {Q : Int32 → MM → Prop} (l1 : Int32)
    (h : G κ mX3_canBeOneLayer 0 [.ref 109, .int l1, .null, .null, .null] [] M Q) : Cl κ mX3_canBeOneLayer [.ref 109, .int l1] M Q := g_entry 3 pl_X3_canBeOneLayer (Nat.le_of_ble_eq_true rfl) (L := [.ref 109, .int l1, .null, .null, .null]) rfl (g_sub _ (sub_c (Or.inr rfl) (sub_c (Or.inr rfl) (sub_c (Or.inr rfl) (sub_c (Or.inr rfl) (sub_c (Or.inr rfl) sub_n))))) h)
theorem dX3_fewestFor_0 : decode cX3_fewestFor 0 = .ok (.iload_n 1, 1) := by decide +kernel
theorem dX3_fewestFor_1 : decode cX3_fewestFor 1 = .ok (.iload_n 1, 1) := by decide +kernel
theorem dX3_fewestFor_2 : decode cX3_fewestFor 2 = .ok (.ineg, 1) := by decide +kernel
theorem dX3_fewestFor_3 : decode cX3_fewestFor 3 = .ok (.iand, 1) := by decide +kernel
theorem dX3_fewestFor_4 : decode cX3_fewestFor 4 = .ok (.istore_n 2, 1) := by decide +kernel
theorem dX3_fewestFor_5 : decode cX3_fewestFor 5 = .ok (.iload_n 1, 1) := by decide +kernel
theorem dX3_fewestFor_6 : decode cX3_fewestFor 6 = .ok (.iload_n 2, 1) := by decide +kernel
theorem dX3_fewestFor_7 : decode cX3_fewestFor 7 = .ok (.iconst (-1), 1) := by decide +kernel
theorem dX3_fewestFor_8 : decode cX3_fewestFor 8 = .ok (.ixor, 1) := by decide +kernel
theorem dX3_fewestFor_9 : decode cX3_fewestFor 9 = .ok (.iand, 1) := by decide +kernel
theorem dX3_fewestFor_10 : decode cX3_fewestFor 10 = .ok (.istore_n 3, 1) := by decide +kernel
theorem dX3_fewestFor_11 : decode cX3_fewestFor 11 = .ok (.aload_n 0, 1) := by decide +kernel
theorem dX3_fewestFor_12 : decode cX3_fewestFor 12 = .ok (.iload_n 2, 1) := by decide +kernel
theorem dX3_fewestFor_13 : decode cX3_fewestFor 13 = .ok (.iload_n 3, 1) := by decide +kernel
theorem dX3_fewestFor_14 : decode cX3_fewestFor 14 = .ok (.invokevirtual 40, 3) := by decide +kernel
theorem dX3_fewestFor_17 : decode cX3_fewestFor 17 = .ok (.istore 4, 2) := by decide +kernel
theorem dX3_fewestFor_19 : decode cX3_fewestFor 19 = .ok (.iload_n 3, 1) := by decide +kernel
theorem dX3_fewestFor_20 : decode cX3_fewestFor 20 = .ok (.istore 5, 2) := by decide +kernel
theorem dX3_fewestFor_22 : decode cX3_fewestFor 22 = .ok (.iload 5, 2) := by decide +kernel
theorem dX3_fewestFor_24 : decode cX3_fewestFor 24 = .ok (.ifCond .le 35, 3) := by decide +kernel
theorem dX3_fewestFor_27 : decode cX3_fewestFor 27 = .ok (.iload 4, 2) := by decide +kernel
theorem dX3_fewestFor_29 : decode cX3_fewestFor 29 = .ok (.aload_n 0, 1) := by decide +kernel
theorem dX3_fewestFor_30 : decode cX3_fewestFor 30 = .ok (.iload_n 2, 1) := by decide +kernel
theorem dX3_fewestFor_31 : decode cX3_fewestFor 31 = .ok (.iload 5, 2) := by decide +kernel
theorem dX3_fewestFor_33 : decode cX3_fewestFor 33 = .ok (.ior, 1) := by decide +kernel
theorem dX3_fewestFor_34 : decode cX3_fewestFor 34 = .ok (.iload_n 3, 1) := by decide +kernel
theorem dX3_fewestFor_35 : decode cX3_fewestFor 35 = .ok (.iload 5, 2) := by decide +kernel
theorem dX3_fewestFor_37 : decode cX3_fewestFor 37 = .ok (.iconst (-1), 1) := by decide +kernel
theorem dX3_fewestFor_38 : decode cX3_fewestFor 38 = .ok (.ixor, 1) := by decide +kernel
theorem dX3_fewestFor_39 : decode cX3_fewestFor 39 = .ok (.iand, 1) := by decide +kernel
theorem dX3_fewestFor_40 : decode cX3_fewestFor 40 = .ok (.invokevirtual 40, 3) := by decide +kernel
theorem dX3_fewestFor_43 : decode cX3_fewestFor 43 = .ok (.invokestatic 44, 3) := by decide +kernel
theorem dX3_fewestFor_46 : decode cX3_fewestFor 46 = .ok (.istore 4, 2) := by decide +kernel
theorem dX3_fewestFor_48 : decode cX3_fewestFor 48 = .ok (.iload 5, 2) := by decide +kernel
theorem dX3_fewestFor_50 : decode cX3_fewestFor 50 = .ok (.iconst 1, 1) := by decide +kernel
theorem dX3_fewestFor_51 : decode cX3_fewestFor 51 = .ok (.isub, 1) := by decide +kernel
theorem dX3_fewestFor_52 : decode cX3_fewestFor 52 = .ok (.iload_n 3, 1) := by decide +kernel
theorem dX3_fewestFor_53 : decode cX3_fewestFor 53 = .ok (.iand, 1) := by decide +kernel
theorem dX3_fewestFor_54 : decode cX3_fewestFor 54 = .ok (.istore 5, 2) := by decide +kernel
theorem dX3_fewestFor_56 : decode cX3_fewestFor 56 = .ok (.goto (-34), 3) := by decide +kernel
theorem dX3_fewestFor_59 : decode cX3_fewestFor 59 = .ok (.iload 4, 2) := by decide +kernel
theorem dX3_fewestFor_61 : decode cX3_fewestFor 61 = .ok (.ireturn, 1) := by decide +kernel
theorem bX3_fewestFor_0 {κ : gK} {M : MM} {Q : Int32 → MM → Prop} (l1 : Int32)
    (h : ∀ v1 : Int32, v1 = (l1 &&& ((l1 &&& (-l1)) ^^^ (-1 : Int32))) → (Cl κ mX3_fewestWith [.ref 109, .int (l1 &&& (-l1)), .int v1] M (fun r2 M2 => G κ mX3_fewestFor 22 [.ref 109, .null, .int (l1 &&& (-l1)), .int v1, .int r2, .int v1] [] M2 Q))) :
    G κ mX3_fewestFor 0 [.ref 109, .int l1, .null, .null, .null, .null] [] M Q := by
  refine g_iload_n (i := 1) dX3_fewestFor_0 rfl rfl ?_
  refine g_iload_n (i := 1) dX3_fewestFor_1 rfl rfl ?_
  refine g_ineg dX3_fewestFor_2 ?_
  refine g_iand dX3_fewestFor_3 ?_
  refine g_istore_n (i := 2) (L' := [.ref 109, .int l1, .int (l1 &&& (-l1)), .null, .null, .null]) dX3_fewestFor_4 rfl (Nat.le_of_ble_eq_true rfl) rfl rfl ?_
  refine g_iload_n (i := 1) dX3_fewestFor_5 rfl rfl ?_
  refine g_iload_n (i := 2) dX3_fewestFor_6 rfl rfl ?_
  refine g_iconst (v := (-1 : Int32)) dX3_fewestFor_7 (by decide) ?_
  refine g_ixor dX3_fewestFor_8 ?_
  refine g_iand dX3_fewestFor_9 ?_
  refine lv_nm (fun v1 hn1 => ?_) (x := (l1 &&& ((l1 &&& (-l1)) ^^^ (-1 : Int32))))
  replace h := h v1 hn1
  refine g_istore_n (i := 3) (L' := [.ref 109, .int l1, .int (l1 &&& (-l1)), .int v1, .null, .null]) dX3_fewestFor_10 rfl (Nat.le_of_ble_eq_true rfl) rfl rfl ?_
  refine g_aload_n (i := 0) dX3_fewestFor_11 rfl rfl ?_
  refine g_iload_n (i := 2) dX3_fewestFor_12 rfl rfl ?_
  refine g_iload_n (i := 3) dX3_fewestFor_13 rfl rfl ?_
  refine gc_RX3_40 rfl (Nat.le_of_ble_eq_true rfl) dX3_fewestFor_14 sh_109 (Nat.le_of_ble_eq_true rfl) ?_
  refine Cl.mono h (fun r2 M2 h => ?_)
  refine g_istore (i := 4) (L' := [.ref 109, .int l1, .int (l1 &&& (-l1)), .int v1, .int r2, .null]) dX3_fewestFor_17 (Nat.le_of_ble_eq_true rfl) rfl rfl ?_
  refine g_iload_n (i := 3) dX3_fewestFor_19 rfl rfl ?_
  refine g_istore (i := 5) (L' := [.ref 109, .int l1, .int (l1 &&& (-l1)), .int v1, .int r2, .int v1]) dX3_fewestFor_20 (Nat.le_of_ble_eq_true rfl) rfl rfl ?_
  exact g_sub _ (sub_c (Or.inr rfl) (sub_c (Or.inl rfl) (sub_c (Or.inr rfl) (sub_c (Or.inr rfl) (sub_c (Or.inr rfl) (sub_c (Or.inr rfl) sub_n)))))) h
theorem bX3_fewestFor_22 {κ : gK} {M : MM} {Q : Int32 → MM → Prop} (l2 : Int32) (l3 : Int32) (l4 : Int32) (l5 : Int32)
    (h : ((l5 ≤ 0 → Q l4 M) ∧ (¬ l5 ≤ 0 → Cl κ mX3_fewestWith [.ref 109, .int (l2 ||| l5), .int (l3 &&& (l5 ^^^ (-1 : Int32)))] M (fun r1 M1 => ∀ v2 : Int32, v2 = ((l5 - (1 : Int32)) &&& l3) → (G κ mX3_fewestFor 22 [.ref 109, .null, .int l2, .int l3, .int (jmin l4 r1), .int v2] [] M1 Q))))) :
    G κ mX3_fewestFor 22 [.ref 109, .null, .int l2, .int l3, .int l4, .int l5] [] M Q := by
  refine g_iload (i := 5) dX3_fewestFor_22 rfl ?_
  refine g_if_le (tgt := 59) dX3_fewestFor_24 rfl ⟨fun hc => ?_, fun hc => ?_⟩
  · replace h := h.1 hc
    refine g_iload (i := 4) dX3_fewestFor_59 rfl ?_
    exact g_iret dX3_fewestFor_61 rfl h
  · replace h := h.2 hc
    refine g_iload (i := 4) dX3_fewestFor_27 rfl ?_
    refine g_aload_n (i := 0) dX3_fewestFor_29 rfl rfl ?_
    refine g_iload_n (i := 2) dX3_fewestFor_30 rfl rfl ?_
    refine g_iload (i := 5) dX3_fewestFor_31 rfl ?_
    refine g_ior dX3_fewestFor_33 ?_
    refine g_iload_n (i := 3) dX3_fewestFor_34 rfl rfl ?_
    refine g_iload (i := 5) dX3_fewestFor_35 rfl ?_
    refine g_iconst (v := (-1 : Int32)) dX3_fewestFor_37 (by decide) ?_
    refine g_ixor dX3_fewestFor_38 ?_
    refine g_iand dX3_fewestFor_39 ?_
    refine gc_RX3_40 rfl (Nat.le_of_ble_eq_true rfl) dX3_fewestFor_40 sh_109 (Nat.le_of_ble_eq_true rfl) ?_
    refine Cl.mono h (fun r1 M1 h => ?_)
    refine gc_RX3_44 rfl dX3_fewestFor_43 (Nat.le_of_ble_eq_true rfl) (Nat.le_of_ble_eq_true rfl) ?_
    refine g_istore (i := 4) (L' := [.ref 109, .null, .int l2, .int l3, .int (jmin l4 r1), .int l5]) dX3_fewestFor_46 (Nat.le_of_ble_eq_true rfl) rfl rfl ?_
    refine g_iload (i := 5) dX3_fewestFor_48 rfl ?_
    refine g_iconst (v := (1 : Int32)) dX3_fewestFor_50 (by decide) ?_
    refine g_isub dX3_fewestFor_51 ?_
    refine g_iload_n (i := 3) dX3_fewestFor_52 rfl rfl ?_
    refine g_iand dX3_fewestFor_53 ?_
    refine lv_nm (fun v2 hn2 => ?_) (x := ((l5 - (1 : Int32)) &&& l3))
    replace h := h v2 hn2
    refine g_istore (i := 5) (L' := [.ref 109, .null, .int l2, .int l3, .int (jmin l4 r1), .int v2]) dX3_fewestFor_54 (Nat.le_of_ble_eq_true rfl) rfl rfl ?_
    refine g_goto (tgt := 22) dX3_fewestFor_56 rfl ?_
    exact h
theorem eX3_fewestFor {κ : gK} {M : MM} {Q : Int32 → MM → Prop} (l1 : Int32)
    (h : G κ mX3_fewestFor 0 [.ref 109, .int l1, .null, .null, .null, .null] [] M Q) : Cl κ mX3_fewestFor [.ref 109, .int l1] M Q := g_entry 4 pl_X3_fewestFor (Nat.le_of_ble_eq_true rfl) (L := [.ref 109, .int l1, .null, .null, .null, .null]) rfl (g_sub _ (sub_c (Or.inr rfl) (sub_c (Or.inr rfl) (sub_c (Or.inr rfl) (sub_c (Or.inr rfl) (sub_c (Or.inr rfl) (sub_c (Or.inr rfl) sub_n)))))) h)
theorem dX3_fewestWith_0 : decode cX3_fewestWith 0 = .ok (.aload_n 0, 1) := by decide +kernel
theorem dX3_fewestWith_1 : decode cX3_fewestWith 1 = .ok (.getfield 22, 3) := by decide +kernel
theorem dX3_fewestWith_4 : decode cX3_fewestWith 4 = .ok (.iload_n 1, 1) := by decide +kernel
theorem dX3_fewestWith_5 : decode cX3_fewestWith 5 = .ok (.baload, 1) := by decide +kernel
theorem dX3_fewestWith_6 : decode cX3_fewestWith 6 = .ok (.ifCond .eq 14, 3) := by decide +kernel
theorem dX3_fewestWith_9 : decode cX3_fewestWith 9 = .ok (.iconst 1, 1) := by decide +kernel
theorem dX3_fewestWith_10 : decode cX3_fewestWith 10 = .ok (.aload_n 0, 1) := by decide +kernel
theorem dX3_fewestWith_11 : decode cX3_fewestWith 11 = .ok (.getfield 25, 3) := by decide +kernel
theorem dX3_fewestWith_14 : decode cX3_fewestWith 14 = .ok (.iload_n 2, 1) := by decide +kernel
theorem dX3_fewestWith_15 : decode cX3_fewestWith 15 = .ok (.iaload, 1) := by decide +kernel
theorem dX3_fewestWith_16 : decode cX3_fewestWith 16 = .ok (.iadd, 1) := by decide +kernel
theorem dX3_fewestWith_17 : decode cX3_fewestWith 17 = .ok (.goto 6, 3) := by decide +kernel
theorem dX3_fewestWith_20 : decode cX3_fewestWith 20 = .ok (.sipush 1000, 3) := by decide +kernel
theorem dX3_fewestWith_23 : decode cX3_fewestWith 23 = .ok (.ireturn, 1) := by decide +kernel
theorem bX3_fewestWith_0 {κ : gK} {M : MM} {Q : Int32 → MM → Prop} (l1 : Int32) (l2 : Int32)
    (h : (vp_in l1 256) ∧ ((((M 113 (l1).toNatClampNeg) = 0 → G κ mX3_fewestWith 23 [.null, .null, .null] [.int (1000 : Int32)] M Q) ∧ (¬ (M 113 (l1).toNatClampNeg) = 0 → (vp_in l2 256) ∧ (G κ mX3_fewestWith 23 [.null, .null, .null] [.int ((1 : Int32) + (M 114 (l2).toNatClampNeg))] M Q))))) :
    G κ mX3_fewestWith 0 [.ref 109, .int l1, .int l2] [] M Q := by
  refine g_aload_n (i := 0) dX3_fewestWith_0 rfl rfl ?_
  refine gf_RX3_22 rfl dX3_fewestWith_1 sh_109 ?_
  refine g_iload_n (i := 1) dX3_fewestWith_4 rfl rfl ?_
  have hv1 := h.1; replace h := h.2
  refine g_zald dX3_fewestWith_5 sh_113 hv1 ?_
  refine g_if_eq (tgt := 20) dX3_fewestWith_6 rfl ⟨fun hc => ?_, fun hc => ?_⟩
  · replace h := h.1 hc
    refine g_sipush (v := (1000 : Int32)) dX3_fewestWith_20 (by decide) ?_
    exact g_sub _ (sub_c (Or.inl rfl) (sub_c (Or.inl rfl) (sub_c (Or.inl rfl) sub_n))) h
  · replace h := h.2 hc
    refine g_iconst (v := (1 : Int32)) dX3_fewestWith_9 (by decide) ?_
    refine g_aload_n (i := 0) dX3_fewestWith_10 rfl rfl ?_
    refine gf_RX3_25 rfl dX3_fewestWith_11 sh_109 ?_
    refine g_iload_n (i := 2) dX3_fewestWith_14 rfl rfl ?_
    have hv2 := h.1; replace h := h.2
    refine g_iald dX3_fewestWith_15 sh_114 hv2 ?_
    refine g_iadd dX3_fewestWith_16 ?_
    refine g_goto (tgt := 23) dX3_fewestWith_17 rfl ?_
    exact g_sub _ (sub_c (Or.inl rfl) (sub_c (Or.inl rfl) (sub_c (Or.inl rfl) sub_n))) h
theorem bX3_fewestWith_23 {κ : gK} {M : MM} {Q : Int32 → MM → Prop} (s0 : Int32)
    (h : Q s0 M) :
    G κ mX3_fewestWith 23 [.null, .null, .null] [.int s0] M Q := by
  exact g_iret dX3_fewestWith_23 rfl h
theorem eX3_fewestWith {κ : gK} {M : MM} {Q : Int32 → MM → Prop} (l1 : Int32) (l2 : Int32)
    (h : G κ mX3_fewestWith 0 [.ref 109, .int l1, .int l2] [] M Q) : Cl κ mX3_fewestWith [.ref 109, .int l1, .int l2] M Q := g_entry 0 pl_X3_fewestWith (Nat.le_of_ble_eq_true rfl) (L := [.ref 109, .int l1, .int l2]) rfl (g_sub _ (sub_c (Or.inr rfl) (sub_c (Or.inr rfl) (sub_c (Or.inr rfl) sub_n))) h)
theorem dX6_add_0 : decode cX6_add 0 = .ok (.aload_n 0, 1) := by decide +kernel
theorem dX6_add_1 : decode cX6_add 1 = .ok (.getfield 21, 3) := by decide +kernel
theorem dX6_add_4 : decode cX6_add 4 = .ok (.bipush 6, 2) := by decide +kernel
theorem dX6_add_6 : decode cX6_add 6 = .ok (.if_icmp .ge 33, 3) := by decide +kernel
theorem dX6_add_9 : decode cX6_add 9 = .ok (.aload_n 0, 1) := by decide +kernel
theorem dX6_add_10 : decode cX6_add 10 = .ok (.getfield 9, 3) := by decide +kernel
theorem dX6_add_13 : decode cX6_add 13 = .ok (.aload_n 0, 1) := by decide +kernel
theorem dX6_add_14 : decode cX6_add 14 = .ok (.getfield 21, 3) := by decide +kernel
theorem dX6_add_17 : decode cX6_add 17 = .ok (.iload_n 1, 1) := by decide +kernel
theorem dX6_add_18 : decode cX6_add 18 = .ok (.iastore, 1) := by decide +kernel
theorem dX6_add_19 : decode cX6_add 19 = .ok (.aload_n 0, 1) := by decide +kernel
theorem dX6_add_20 : decode cX6_add 20 = .ok (.getfield 15, 3) := by decide +kernel
theorem dX6_add_23 : decode cX6_add 23 = .ok (.aload_n 0, 1) := by decide +kernel
theorem dX6_add_24 : decode cX6_add 24 = .ok (.getfield 21, 3) := by decide +kernel
theorem dX6_add_27 : decode cX6_add 27 = .ok (.iload_n 2, 1) := by decide +kernel
theorem dX6_add_28 : decode cX6_add 28 = .ok (.iastore, 1) := by decide +kernel
theorem dX6_add_29 : decode cX6_add 29 = .ok (.aload_n 0, 1) := by decide +kernel
theorem dX6_add_30 : decode cX6_add 30 = .ok (.dup, 1) := by decide +kernel
theorem dX6_add_31 : decode cX6_add 31 = .ok (.getfield 21, 3) := by decide +kernel
theorem dX6_add_34 : decode cX6_add 34 = .ok (.iconst 1, 1) := by decide +kernel
theorem dX6_add_35 : decode cX6_add 35 = .ok (.iadd, 1) := by decide +kernel
theorem dX6_add_36 : decode cX6_add 36 = .ok (.putfield 21, 3) := by decide +kernel
theorem dX6_add_39 : decode cX6_add 39 = .ok (.aload_n 0, 1) := by decide +kernel
theorem dX6_add_40 : decode cX6_add 40 = .ok (.getfield 21, 3) := by decide +kernel
theorem dX6_add_43 : decode cX6_add 43 = .ok (.ireturn, 1) := by decide +kernel
theorem bX6_add_0 {κ : gK} {M : MM} {Q : Int32 → MM → Prop} (l1 : Int32) (l2 : Int32)
    (h : (((6 : Int32) ≤ (M 105 3) → G κ mX6_add 39 [.ref 105, .null, .null] [] M Q) ∧ (¬ (6 : Int32) ≤ (M 105 3) → (vp_in (M 105 3) 6) ∧ (∀ M1 : MM, M1 = (pt M 106 ((M 105 3)).toNatClampNeg l1) → ((vp_in (M1 105 3) 6) ∧ (∀ M2 : MM, M2 = (pt M1 107 ((M1 105 3)).toNatClampNeg l2) → (∀ M3 : MM, M3 = (pt M2 105 3 ((M2 105 3) + (1 : Int32))) → (G κ mX6_add 39 [.ref 105, .null, .null] [] M3 Q)))))))) :
    G κ mX6_add 0 [.ref 105, .int l1, .int l2] [] M Q := by
  refine g_aload_n (i := 0) dX6_add_0 rfl rfl ?_
  refine gf_RX6_21 rfl dX6_add_1 sh_105 ?_
  refine g_bipush (v := (6 : Int32)) dX6_add_4 (by decide) ?_
  refine g_icmp_ge (tgt := 39) dX6_add_6 rfl ⟨fun hc => ?_, fun hc => ?_⟩
  · replace h := h.1 hc
    exact g_sub _ (sub_c (Or.inr rfl) (sub_c (Or.inl rfl) (sub_c (Or.inl rfl) sub_n))) h
  · replace h := h.2 hc
    refine g_aload_n (i := 0) dX6_add_9 rfl rfl ?_
    refine gf_RX6_9 rfl dX6_add_10 sh_105 ?_
    refine g_aload_n (i := 0) dX6_add_13 rfl rfl ?_
    refine gf_RX6_21 rfl dX6_add_14 sh_105 ?_
    refine g_iload_n (i := 1) dX6_add_17 rfl rfl ?_
    have hv1 := h.1; replace h := h.2
    refine g_iastP dX6_add_18 sh_106 hv1 ?_
    refine g_nmM (fun M1 hM1 => ?_); replace h := h M1 hM1
    refine g_aload_n (i := 0) dX6_add_19 rfl rfl ?_
    refine gf_RX6_15 rfl dX6_add_20 sh_105 ?_
    refine g_aload_n (i := 0) dX6_add_23 rfl rfl ?_
    refine gf_RX6_21 rfl dX6_add_24 sh_105 ?_
    refine g_iload_n (i := 2) dX6_add_27 rfl rfl ?_
    have hv2 := h.1; replace h := h.2
    refine g_iastP dX6_add_28 sh_107 hv2 ?_
    refine g_nmM (fun M2 hM2 => ?_); replace h := h M2 hM2
    refine g_aload_n (i := 0) dX6_add_29 rfl rfl ?_
    refine g_dup dX6_add_30 rfl ?_
    refine gf_RX6_21 rfl dX6_add_31 sh_105 ?_
    refine g_iconst (v := (1 : Int32)) dX6_add_34 (by decide) ?_
    refine g_iadd dX6_add_35 ?_
    refine gp_RX6_21 rfl dX6_add_36 sh_105 ?_
    refine g_nmM (fun M3 hM3 => ?_); replace h := h M3 hM3
    exact g_sub _ (sub_c (Or.inr rfl) (sub_c (Or.inl rfl) (sub_c (Or.inl rfl) sub_n))) h
theorem bX6_add_39 {κ : gK} {M : MM} {Q : Int32 → MM → Prop} 
    (h : Q (M 105 3) M) :
    G κ mX6_add 39 [.ref 105, .null, .null] [] M Q := by
  refine g_aload_n (i := 0) dX6_add_39 rfl rfl ?_
  refine gf_RX6_21 rfl dX6_add_40 sh_105 ?_
  exact g_iret dX6_add_43 rfl h
theorem eX6_add {κ : gK} {M : MM} {Q : Int32 → MM → Prop} (l1 : Int32) (l2 : Int32)
    (h : G κ mX6_add 0 [.ref 105, .int l1, .int l2] [] M Q) : Cl κ mX6_add [.ref 105, .int l1, .int l2] M Q := g_entry 0 pl_X6_add (Nat.le_of_ble_eq_true rfl) (L := [.ref 105, .int l1, .int l2]) rfl (g_sub _ (sub_c (Or.inr rfl) (sub_c (Or.inr rfl) (sub_c (Or.inr rfl) sub_n))) h)
theorem dX6_howManyFit_0 : decode cX6_howManyFit 0 = .ok (.iconst 0, 1) := by decide +kernel
theorem dX6_howManyFit_1 : decode cX6_howManyFit 1 = .ok (.istore_n 2, 1) := by decide +kernel
theorem dX6_howManyFit_2 : decode cX6_howManyFit 2 = .ok (.getstatic 25, 3) := by decide +kernel
theorem dX6_howManyFit_5 : decode cX6_howManyFit 5 = .ok (.astore_n 3, 1) := by decide +kernel
theorem dX6_howManyFit_6 : decode cX6_howManyFit 6 = .ok (.aload_n 3, 1) := by decide +kernel
theorem dX6_howManyFit_7 : decode cX6_howManyFit 7 = .ok (.arraylength, 1) := by decide +kernel
theorem dX6_howManyFit_8 : decode cX6_howManyFit 8 = .ok (.istore 4, 2) := by decide +kernel
theorem dX6_howManyFit_10 : decode cX6_howManyFit 10 = .ok (.iconst 0, 1) := by decide +kernel
theorem dX6_howManyFit_11 : decode cX6_howManyFit 11 = .ok (.istore 5, 2) := by decide +kernel
theorem dX6_howManyFit_13 : decode cX6_howManyFit 13 = .ok (.iload 5, 2) := by decide +kernel
theorem dX6_howManyFit_15 : decode cX6_howManyFit 15 = .ok (.iload 4, 2) := by decide +kernel
theorem dX6_howManyFit_17 : decode cX6_howManyFit 17 = .ok (.if_icmp .ge 51, 3) := by decide +kernel
theorem dX6_howManyFit_20 : decode cX6_howManyFit 20 = .ok (.aload_n 3, 1) := by decide +kernel
theorem dX6_howManyFit_21 : decode cX6_howManyFit 21 = .ok (.iload 5, 2) := by decide +kernel
theorem dX6_howManyFit_23 : decode cX6_howManyFit 23 = .ok (.iaload, 1) := by decide +kernel
theorem dX6_howManyFit_24 : decode cX6_howManyFit 24 = .ok (.istore 6, 2) := by decide +kernel
theorem dX6_howManyFit_26 : decode cX6_howManyFit 26 = .ok (.iconst 0, 1) := by decide +kernel
theorem dX6_howManyFit_27 : decode cX6_howManyFit 27 = .ok (.istore 7, 2) := by decide +kernel
theorem dX6_howManyFit_29 : decode cX6_howManyFit 29 = .ok (.iload 7, 2) := by decide +kernel
theorem dX6_howManyFit_31 : decode cX6_howManyFit 31 = .ok (.bipush 9, 2) := by decide +kernel
theorem dX6_howManyFit_33 : decode cX6_howManyFit 33 = .ok (.if_icmp .gt 29, 3) := by decide +kernel
theorem dX6_howManyFit_36 : decode cX6_howManyFit 36 = .ok (.iload_n 2, 1) := by decide +kernel
theorem dX6_howManyFit_37 : decode cX6_howManyFit 37 = .ok (.aload_n 0, 1) := by decide +kernel
theorem dX6_howManyFit_38 : decode cX6_howManyFit 38 = .ok (.aload_n 1, 1) := by decide +kernel
theorem dX6_howManyFit_39 : decode cX6_howManyFit 39 = .ok (.iload 6, 2) := by decide +kernel
theorem dX6_howManyFit_41 : decode cX6_howManyFit 41 = .ok (.iload 7, 2) := by decide +kernel
theorem dX6_howManyFit_43 : decode cX6_howManyFit 43 = .ok (.invokevirtual 28, 3) := by decide +kernel
theorem dX6_howManyFit_46 : decode cX6_howManyFit 46 = .ok (.ifCond .eq 7, 3) := by decide +kernel
theorem dX6_howManyFit_49 : decode cX6_howManyFit 49 = .ok (.iconst 1, 1) := by decide +kernel
theorem dX6_howManyFit_50 : decode cX6_howManyFit 50 = .ok (.goto 4, 3) := by decide +kernel
theorem dX6_howManyFit_53 : decode cX6_howManyFit 53 = .ok (.iconst 0, 1) := by decide +kernel
theorem dX6_howManyFit_54 : decode cX6_howManyFit 54 = .ok (.iadd, 1) := by decide +kernel
theorem dX6_howManyFit_55 : decode cX6_howManyFit 55 = .ok (.istore_n 2, 1) := by decide +kernel
theorem dX6_howManyFit_56 : decode cX6_howManyFit 56 = .ok (.iinc 7 1, 3) := by decide +kernel
theorem dX6_howManyFit_59 : decode cX6_howManyFit 59 = .ok (.goto (-30), 3) := by decide +kernel
theorem dX6_howManyFit_62 : decode cX6_howManyFit 62 = .ok (.iinc 5 1, 3) := by decide +kernel
theorem dX6_howManyFit_65 : decode cX6_howManyFit 65 = .ok (.goto (-52), 3) := by decide +kernel
theorem dX6_howManyFit_68 : decode cX6_howManyFit 68 = .ok (.iload_n 2, 1) := by decide +kernel
theorem dX6_howManyFit_69 : decode cX6_howManyFit 69 = .ok (.ireturn, 1) := by decide +kernel
theorem bX6_howManyFit_0 {κ : gK} {M : MM} {Q : Int32 → MM → Prop} (o1 : Nat) (ho1 : twO o1)
    (h : G κ mX6_howManyFit 13 [.ref 105, .ref o1, .int (0 : Int32), .ref 999, .int (3 : Int32), .int (0 : Int32), .null, .null] [] M Q) :
    G κ mX6_howManyFit 0 [.ref 105, .ref o1, .null, .null, .null, .null, .null, .null] [] M Q := by
  refine g_iconst (v := (0 : Int32)) dX6_howManyFit_0 (by decide) ?_
  refine g_istore_n (i := 2) (L' := [.ref 105, .ref o1, .int (0 : Int32), .null, .null, .null, .null, .null]) dX6_howManyFit_1 rfl (Nat.le_of_ble_eq_true rfl) rfl rfl ?_
  refine gs_RX6_25 rfl dX6_howManyFit_2 ?_
  refine g_astore_n (i := 3) (L' := [.ref 105, .ref o1, .int (0 : Int32), .ref 999, .null, .null, .null, .null]) dX6_howManyFit_5 rfl (Nat.le_of_ble_eq_true rfl) rfl rfl ?_
  refine g_aload_n (i := 3) dX6_howManyFit_6 rfl rfl ?_
  refine g_kindsLen dX6_howManyFit_7 ?_
  refine g_istore (i := 4) (L' := [.ref 105, .ref o1, .int (0 : Int32), .ref 999, .int (3 : Int32), .null, .null, .null]) dX6_howManyFit_8 (Nat.le_of_ble_eq_true rfl) rfl rfl ?_
  refine g_iconst (v := (0 : Int32)) dX6_howManyFit_10 (by decide) ?_
  refine g_istore (i := 5) (L' := [.ref 105, .ref o1, .int (0 : Int32), .ref 999, .int (3 : Int32), .int (0 : Int32), .null, .null]) dX6_howManyFit_11 (Nat.le_of_ble_eq_true rfl) rfl rfl ?_
  exact h
theorem bX6_howManyFit_13 {κ : gK} {M : MM} {Q : Int32 → MM → Prop} (o1 : Nat) (ho1 : twO o1) (l2 : Int32) (l4 : Int32) (l5 : Int32)
    (h : ((l4 ≤ l5 → Q l2 M) ∧ (¬ l4 ≤ l5 → (vp_in l5 3) ∧ (∀ v1 : Int32, v1 = (([0, 1, 3] : List Int32).getD (l5).toNatClampNeg 0) → (G κ mX6_howManyFit 29 [.ref 105, .ref o1, .int l2, .ref 999, .int l4, .int l5, .int v1, .int (0 : Int32)] [] M Q))))) :
    G κ mX6_howManyFit 13 [.ref 105, .ref o1, .int l2, .ref 999, .int l4, .int l5, .null, .null] [] M Q := by
  refine g_iload (i := 5) dX6_howManyFit_13 rfl ?_
  refine g_iload (i := 4) dX6_howManyFit_15 rfl ?_
  refine g_icmp_ge (tgt := 68) dX6_howManyFit_17 rfl ⟨fun hc => ?_, fun hc => ?_⟩
  · replace h := h.1 hc
    refine g_iload_n (i := 2) dX6_howManyFit_68 rfl rfl ?_
    exact g_iret dX6_howManyFit_69 rfl h
  · replace h := h.2 hc
    refine g_aload_n (i := 3) dX6_howManyFit_20 rfl rfl ?_
    refine g_iload (i := 5) dX6_howManyFit_21 rfl ?_
    have hv1 := h.1; replace h := h.2
    refine g_kindsAt dX6_howManyFit_23 hv1 ?_
    refine lv_nm (fun v1 hn1 => ?_) (x := (([0, 1, 3] : List Int32).getD (l5).toNatClampNeg 0))
    replace h := h v1 hn1
    refine g_istore (i := 6) (L' := [.ref 105, .ref o1, .int l2, .ref 999, .int l4, .int l5, .int v1, .null]) dX6_howManyFit_24 (Nat.le_of_ble_eq_true rfl) rfl rfl ?_
    refine g_iconst (v := (0 : Int32)) dX6_howManyFit_26 (by decide) ?_
    refine g_istore (i := 7) (L' := [.ref 105, .ref o1, .int l2, .ref 999, .int l4, .int l5, .int v1, .int (0 : Int32)]) dX6_howManyFit_27 (Nat.le_of_ble_eq_true rfl) rfl rfl ?_
    exact h
theorem bX6_howManyFit_29 {κ : gK} {M : MM} {Q : Int32 → MM → Prop} (o1 : Nat) (ho1 : twO o1) (l2 : Int32) (l4 : Int32) (l5 : Int32) (l6 : Int32) (l7 : Int32)
    (h : (((9 : Int32) < l7 → G κ mX6_howManyFit 13 [.ref 105, .ref o1, .int l2, .ref 999, .int l4, .int (l5 + 1), .null, .null] [] M Q) ∧ (¬ (9 : Int32) < l7 → Cl κ mX6_fits [.ref 105, .ref o1, .int l6, .int l7] M (fun r1 M1 => ((r1 = 0 → G κ mX6_howManyFit 54 [.ref 105, .ref o1, .null, .ref 999, .int l4, .int l5, .int l6, .int l7] [.int (0 : Int32), .int l2] M1 Q) ∧ (¬ r1 = 0 → G κ mX6_howManyFit 54 [.ref 105, .ref o1, .null, .ref 999, .int l4, .int l5, .int l6, .int l7] [.int (1 : Int32), .int l2] M1 Q)))))) :
    G κ mX6_howManyFit 29 [.ref 105, .ref o1, .int l2, .ref 999, .int l4, .int l5, .int l6, .int l7] [] M Q := by
  refine g_iload (i := 7) dX6_howManyFit_29 rfl ?_
  refine g_bipush (v := (9 : Int32)) dX6_howManyFit_31 (by decide) ?_
  refine g_icmp_gt (tgt := 62) dX6_howManyFit_33 rfl ⟨fun hc => ?_, fun hc => ?_⟩
  · replace h := h.1 hc
    refine g_iinc (v := (l5 + 1)) (L' := [.ref 105, .ref o1, .int l2, .ref 999, .int l4, .int (l5 + 1), .int l6, .int l7]) dX6_howManyFit_62 rfl rfl (Nat.le_of_ble_eq_true rfl) rfl rfl ?_
    refine g_goto (tgt := 13) dX6_howManyFit_65 rfl ?_
    exact g_sub _ (sub_c (Or.inr rfl) (sub_c (Or.inr rfl) (sub_c (Or.inr rfl) (sub_c (Or.inr rfl) (sub_c (Or.inr rfl) (sub_c (Or.inr rfl) (sub_c (Or.inl rfl) (sub_c (Or.inl rfl) sub_n)))))))) h
  · replace h := h.2 hc
    refine g_iload_n (i := 2) dX6_howManyFit_36 rfl rfl ?_
    refine g_aload_n (i := 0) dX6_howManyFit_37 rfl rfl ?_
    refine g_aload_n (i := 1) dX6_howManyFit_38 rfl rfl ?_
    refine g_iload (i := 6) dX6_howManyFit_39 rfl ?_
    refine g_iload (i := 7) dX6_howManyFit_41 rfl ?_
    refine gc_RX6_28 rfl (Nat.le_of_ble_eq_true rfl) dX6_howManyFit_43 sh_105 (Nat.le_of_ble_eq_true rfl) ?_
    refine Cl.mono h (fun r1 M1 h => ?_)
    refine g_if_eq (tgt := 53) dX6_howManyFit_46 rfl ⟨fun hc => ?_, fun hc => ?_⟩
    · replace h := h.1 hc
      refine g_iconst (v := (0 : Int32)) dX6_howManyFit_53 (by decide) ?_
      exact g_sub _ (sub_c (Or.inr rfl) (sub_c (Or.inr rfl) (sub_c (Or.inl rfl) (sub_c (Or.inr rfl) (sub_c (Or.inr rfl) (sub_c (Or.inr rfl) (sub_c (Or.inr rfl) (sub_c (Or.inr rfl) sub_n)))))))) h
    · replace h := h.2 hc
      refine g_iconst (v := (1 : Int32)) dX6_howManyFit_49 (by decide) ?_
      refine g_goto (tgt := 54) dX6_howManyFit_50 rfl ?_
      exact g_sub _ (sub_c (Or.inr rfl) (sub_c (Or.inr rfl) (sub_c (Or.inl rfl) (sub_c (Or.inr rfl) (sub_c (Or.inr rfl) (sub_c (Or.inr rfl) (sub_c (Or.inr rfl) (sub_c (Or.inr rfl) sub_n)))))))) h
theorem bX6_howManyFit_54 {κ : gK} {M : MM} {Q : Int32 → MM → Prop} (o1 : Nat) (ho1 : twO o1) (l4 : Int32) (l5 : Int32) (l6 : Int32) (l7 : Int32) (s0 : Int32) (s1 : Int32)
    (h : G κ mX6_howManyFit 29 [.ref 105, .ref o1, .int (s1 + s0), .ref 999, .int l4, .int l5, .int l6, .int (l7 + 1)] [] M Q) :
    G κ mX6_howManyFit 54 [.ref 105, .ref o1, .null, .ref 999, .int l4, .int l5, .int l6, .int l7] [.int s0, .int s1] M Q := by
  refine g_iadd dX6_howManyFit_54 ?_
  refine g_istore_n (i := 2) (L' := [.ref 105, .ref o1, .int (s1 + s0), .ref 999, .int l4, .int l5, .int l6, .int l7]) dX6_howManyFit_55 rfl (Nat.le_of_ble_eq_true rfl) rfl rfl ?_
  refine g_iinc (v := (l7 + 1)) (L' := [.ref 105, .ref o1, .int (s1 + s0), .ref 999, .int l4, .int l5, .int l6, .int (l7 + 1)]) dX6_howManyFit_56 rfl rfl (Nat.le_of_ble_eq_true rfl) rfl rfl ?_
  refine g_goto (tgt := 29) dX6_howManyFit_59 rfl ?_
  exact h
theorem eX6_howManyFit {κ : gK} {M : MM} {Q : Int32 → MM → Prop} (o1 : Nat)
    (h : G κ mX6_howManyFit 0 [.ref 105, .ref o1, .null, .null, .null, .null, .null, .null] [] M Q) : Cl κ mX6_howManyFit [.ref 105, .ref o1] M Q := g_entry 6 pl_X6_howManyFit (Nat.le_of_ble_eq_true rfl) (L := [.ref 105, .ref o1, .null, .null, .null, .null, .null, .null]) rfl (g_sub _ (sub_c (Or.inr rfl) (sub_c (Or.inr rfl) (sub_c (Or.inr rfl) (sub_c (Or.inr rfl) (sub_c (Or.inr rfl) (sub_c (Or.inr rfl) (sub_c (Or.inr rfl) (sub_c (Or.inr rfl) sub_n)))))))) h)
theorem dX6_firstFit_0 : decode cX6_firstFit 0 = .ok (.getstatic 25, 3) := by decide +kernel
theorem dX6_firstFit_3 : decode cX6_firstFit 3 = .ok (.astore_n 2, 1) := by decide +kernel
theorem dX6_firstFit_4 : decode cX6_firstFit 4 = .ok (.aload_n 2, 1) := by decide +kernel
theorem dX6_firstFit_5 : decode cX6_firstFit 5 = .ok (.arraylength, 1) := by decide +kernel
theorem dX6_firstFit_6 : decode cX6_firstFit 6 = .ok (.istore_n 3, 1) := by decide +kernel
theorem dX6_firstFit_7 : decode cX6_firstFit 7 = .ok (.iconst 0, 1) := by decide +kernel
theorem dX6_firstFit_8 : decode cX6_firstFit 8 = .ok (.istore 4, 2) := by decide +kernel
theorem dX6_firstFit_10 : decode cX6_firstFit 10 = .ok (.iload 4, 2) := by decide +kernel
theorem dX6_firstFit_12 : decode cX6_firstFit 12 = .ok (.iload_n 3, 1) := by decide +kernel
theorem dX6_firstFit_13 : decode cX6_firstFit 13 = .ok (.if_icmp .ge 52, 3) := by decide +kernel
theorem dX6_firstFit_16 : decode cX6_firstFit 16 = .ok (.aload_n 2, 1) := by decide +kernel
theorem dX6_firstFit_17 : decode cX6_firstFit 17 = .ok (.iload 4, 2) := by decide +kernel
theorem dX6_firstFit_19 : decode cX6_firstFit 19 = .ok (.iaload, 1) := by decide +kernel
theorem dX6_firstFit_20 : decode cX6_firstFit 20 = .ok (.istore 5, 2) := by decide +kernel
theorem dX6_firstFit_22 : decode cX6_firstFit 22 = .ok (.iconst 0, 1) := by decide +kernel
theorem dX6_firstFit_23 : decode cX6_firstFit 23 = .ok (.istore 6, 2) := by decide +kernel
theorem dX6_firstFit_25 : decode cX6_firstFit 25 = .ok (.iload 6, 2) := by decide +kernel
theorem dX6_firstFit_27 : decode cX6_firstFit 27 = .ok (.bipush 9, 2) := by decide +kernel
theorem dX6_firstFit_29 : decode cX6_firstFit 29 = .ok (.if_icmp .gt 30, 3) := by decide +kernel
theorem dX6_firstFit_32 : decode cX6_firstFit 32 = .ok (.aload_n 0, 1) := by decide +kernel
theorem dX6_firstFit_33 : decode cX6_firstFit 33 = .ok (.aload_n 1, 1) := by decide +kernel
theorem dX6_firstFit_34 : decode cX6_firstFit 34 = .ok (.iload 5, 2) := by decide +kernel
theorem dX6_firstFit_36 : decode cX6_firstFit 36 = .ok (.iload 6, 2) := by decide +kernel
theorem dX6_firstFit_38 : decode cX6_firstFit 38 = .ok (.invokevirtual 28, 3) := by decide +kernel
theorem dX6_firstFit_41 : decode cX6_firstFit 41 = .ok (.ifCond .eq 12, 3) := by decide +kernel
theorem dX6_firstFit_44 : decode cX6_firstFit 44 = .ok (.bipush 10, 2) := by decide +kernel
theorem dX6_firstFit_46 : decode cX6_firstFit 46 = .ok (.iload 5, 2) := by decide +kernel
theorem dX6_firstFit_48 : decode cX6_firstFit 48 = .ok (.imul, 1) := by decide +kernel
theorem dX6_firstFit_49 : decode cX6_firstFit 49 = .ok (.iload 6, 2) := by decide +kernel
theorem dX6_firstFit_51 : decode cX6_firstFit 51 = .ok (.iadd, 1) := by decide +kernel
theorem dX6_firstFit_52 : decode cX6_firstFit 52 = .ok (.ireturn, 1) := by decide +kernel
theorem dX6_firstFit_53 : decode cX6_firstFit 53 = .ok (.iinc 6 1, 3) := by decide +kernel
theorem dX6_firstFit_56 : decode cX6_firstFit 56 = .ok (.goto (-31), 3) := by decide +kernel
theorem dX6_firstFit_59 : decode cX6_firstFit 59 = .ok (.iinc 4 1, 3) := by decide +kernel
theorem dX6_firstFit_62 : decode cX6_firstFit 62 = .ok (.goto (-52), 3) := by decide +kernel
theorem dX6_firstFit_65 : decode cX6_firstFit 65 = .ok (.iconst (-1), 1) := by decide +kernel
theorem dX6_firstFit_66 : decode cX6_firstFit 66 = .ok (.ireturn, 1) := by decide +kernel
theorem bX6_firstFit_0 {κ : gK} {M : MM} {Q : Int32 → MM → Prop} (o1 : Nat) (ho1 : twO o1)
    (h : G κ mX6_firstFit 10 [.ref 105, .ref o1, .ref 999, .int (3 : Int32), .int (0 : Int32), .null, .null] [] M Q) :
    G κ mX6_firstFit 0 [.ref 105, .ref o1, .null, .null, .null, .null, .null] [] M Q := by
  refine gs_RX6_25 rfl dX6_firstFit_0 ?_
  refine g_astore_n (i := 2) (L' := [.ref 105, .ref o1, .ref 999, .null, .null, .null, .null]) dX6_firstFit_3 rfl (Nat.le_of_ble_eq_true rfl) rfl rfl ?_
  refine g_aload_n (i := 2) dX6_firstFit_4 rfl rfl ?_
  refine g_kindsLen dX6_firstFit_5 ?_
  refine g_istore_n (i := 3) (L' := [.ref 105, .ref o1, .ref 999, .int (3 : Int32), .null, .null, .null]) dX6_firstFit_6 rfl (Nat.le_of_ble_eq_true rfl) rfl rfl ?_
  refine g_iconst (v := (0 : Int32)) dX6_firstFit_7 (by decide) ?_
  refine g_istore (i := 4) (L' := [.ref 105, .ref o1, .ref 999, .int (3 : Int32), .int (0 : Int32), .null, .null]) dX6_firstFit_8 (Nat.le_of_ble_eq_true rfl) rfl rfl ?_
  exact h
theorem bX6_firstFit_10 {κ : gK} {M : MM} {Q : Int32 → MM → Prop} (o1 : Nat) (ho1 : twO o1) (l3 : Int32) (l4 : Int32)
    (h : ((l3 ≤ l4 → Q (-1 : Int32) M) ∧ (¬ l3 ≤ l4 → (vp_in l4 3) ∧ (∀ v1 : Int32, v1 = (([0, 1, 3] : List Int32).getD (l4).toNatClampNeg 0) → (G κ mX6_firstFit 25 [.ref 105, .ref o1, .ref 999, .int l3, .int l4, .int v1, .int (0 : Int32)] [] M Q))))) :
    G κ mX6_firstFit 10 [.ref 105, .ref o1, .ref 999, .int l3, .int l4, .null, .null] [] M Q := by
  refine g_iload (i := 4) dX6_firstFit_10 rfl ?_
  refine g_iload_n (i := 3) dX6_firstFit_12 rfl rfl ?_
  refine g_icmp_ge (tgt := 65) dX6_firstFit_13 rfl ⟨fun hc => ?_, fun hc => ?_⟩
  · replace h := h.1 hc
    refine g_iconst (v := (-1 : Int32)) dX6_firstFit_65 (by decide) ?_
    exact g_iret dX6_firstFit_66 rfl h
  · replace h := h.2 hc
    refine g_aload_n (i := 2) dX6_firstFit_16 rfl rfl ?_
    refine g_iload (i := 4) dX6_firstFit_17 rfl ?_
    have hv1 := h.1; replace h := h.2
    refine g_kindsAt dX6_firstFit_19 hv1 ?_
    refine lv_nm (fun v1 hn1 => ?_) (x := (([0, 1, 3] : List Int32).getD (l4).toNatClampNeg 0))
    replace h := h v1 hn1
    refine g_istore (i := 5) (L' := [.ref 105, .ref o1, .ref 999, .int l3, .int l4, .int v1, .null]) dX6_firstFit_20 (Nat.le_of_ble_eq_true rfl) rfl rfl ?_
    refine g_iconst (v := (0 : Int32)) dX6_firstFit_22 (by decide) ?_
    refine g_istore (i := 6) (L' := [.ref 105, .ref o1, .ref 999, .int l3, .int l4, .int v1, .int (0 : Int32)]) dX6_firstFit_23 (Nat.le_of_ble_eq_true rfl) rfl rfl ?_
    exact h
theorem bX6_firstFit_25 {κ : gK} {M : MM} {Q : Int32 → MM → Prop} (o1 : Nat) (ho1 : twO o1) (l3 : Int32) (l4 : Int32) (l5 : Int32) (l6 : Int32)
    (h : (((9 : Int32) < l6 → G κ mX6_firstFit 10 [.ref 105, .ref o1, .ref 999, .int l3, .int (l4 + 1), .null, .null] [] M Q) ∧ (¬ (9 : Int32) < l6 → Cl κ mX6_fits [.ref 105, .ref o1, .int l5, .int l6] M (fun r1 M1 => ((r1 = 0 → G κ mX6_firstFit 25 [.ref 105, .ref o1, .ref 999, .int l3, .int l4, .int l5, .int (l6 + 1)] [] M1 Q) ∧ (¬ r1 = 0 → Q (((10 : Int32) * l5) + l6) M1)))))) :
    G κ mX6_firstFit 25 [.ref 105, .ref o1, .ref 999, .int l3, .int l4, .int l5, .int l6] [] M Q := by
  refine g_iload (i := 6) dX6_firstFit_25 rfl ?_
  refine g_bipush (v := (9 : Int32)) dX6_firstFit_27 (by decide) ?_
  refine g_icmp_gt (tgt := 59) dX6_firstFit_29 rfl ⟨fun hc => ?_, fun hc => ?_⟩
  · replace h := h.1 hc
    refine g_iinc (v := (l4 + 1)) (L' := [.ref 105, .ref o1, .ref 999, .int l3, .int (l4 + 1), .int l5, .int l6]) dX6_firstFit_59 rfl rfl (Nat.le_of_ble_eq_true rfl) rfl rfl ?_
    refine g_goto (tgt := 10) dX6_firstFit_62 rfl ?_
    exact g_sub _ (sub_c (Or.inr rfl) (sub_c (Or.inr rfl) (sub_c (Or.inr rfl) (sub_c (Or.inr rfl) (sub_c (Or.inr rfl) (sub_c (Or.inl rfl) (sub_c (Or.inl rfl) sub_n))))))) h
  · replace h := h.2 hc
    refine g_aload_n (i := 0) dX6_firstFit_32 rfl rfl ?_
    refine g_aload_n (i := 1) dX6_firstFit_33 rfl rfl ?_
    refine g_iload (i := 5) dX6_firstFit_34 rfl ?_
    refine g_iload (i := 6) dX6_firstFit_36 rfl ?_
    refine gc_RX6_28 rfl (Nat.le_of_ble_eq_true rfl) dX6_firstFit_38 sh_105 (Nat.le_of_ble_eq_true rfl) ?_
    refine Cl.mono h (fun r1 M1 h => ?_)
    refine g_if_eq (tgt := 53) dX6_firstFit_41 rfl ⟨fun hc => ?_, fun hc => ?_⟩
    · replace h := h.1 hc
      refine g_iinc (v := (l6 + 1)) (L' := [.ref 105, .ref o1, .ref 999, .int l3, .int l4, .int l5, .int (l6 + 1)]) dX6_firstFit_53 rfl rfl (Nat.le_of_ble_eq_true rfl) rfl rfl ?_
      refine g_goto (tgt := 25) dX6_firstFit_56 rfl ?_
      exact h
    · replace h := h.2 hc
      refine g_bipush (v := (10 : Int32)) dX6_firstFit_44 (by decide) ?_
      refine g_iload (i := 5) dX6_firstFit_46 rfl ?_
      refine g_imul dX6_firstFit_48 ?_
      refine g_iload (i := 6) dX6_firstFit_49 rfl ?_
      refine g_iadd dX6_firstFit_51 ?_
      exact g_iret dX6_firstFit_52 rfl h
theorem eX6_firstFit {κ : gK} {M : MM} {Q : Int32 → MM → Prop} (o1 : Nat)
    (h : G κ mX6_firstFit 0 [.ref 105, .ref o1, .null, .null, .null, .null, .null] [] M Q) : Cl κ mX6_firstFit [.ref 105, .ref o1] M Q := g_entry 5 pl_X6_firstFit (Nat.le_of_ble_eq_true rfl) (L := [.ref 105, .ref o1, .null, .null, .null, .null, .null]) rfl (g_sub _ (sub_c (Or.inr rfl) (sub_c (Or.inr rfl) (sub_c (Or.inr rfl) (sub_c (Or.inr rfl) (sub_c (Or.inr rfl) (sub_c (Or.inr rfl) (sub_c (Or.inr rfl) sub_n))))))) h)
theorem dX6_lightToWatch_0 : decode cX6_lightToWatch 0 = .ok (.iconst (-1), 1) := by decide +kernel
theorem dX6_lightToWatch_1 : decode cX6_lightToWatch 1 = .ok (.istore_n 2, 1) := by decide +kernel
theorem dX6_lightToWatch_2 : decode cX6_lightToWatch 2 = .ok (.aload_n 0, 1) := by decide +kernel
theorem dX6_lightToWatch_3 : decode cX6_lightToWatch 3 = .ok (.aload_n 1, 1) := by decide +kernel
theorem dX6_lightToWatch_4 : decode cX6_lightToWatch 4 = .ok (.invokevirtual 32, 3) := by decide +kernel
theorem dX6_lightToWatch_7 : decode cX6_lightToWatch 7 = .ok (.istore_n 3, 1) := by decide +kernel
theorem dX6_lightToWatch_8 : decode cX6_lightToWatch 8 = .ok (.iconst 1, 1) := by decide +kernel
theorem dX6_lightToWatch_9 : decode cX6_lightToWatch 9 = .ok (.istore 4, 2) := by decide +kernel
theorem dX6_lightToWatch_11 : decode cX6_lightToWatch 11 = .ok (.iload 4, 2) := by decide +kernel
theorem dX6_lightToWatch_13 : decode cX6_lightToWatch 13 = .ok (.bipush 9, 2) := by decide +kernel
theorem dX6_lightToWatch_15 : decode cX6_lightToWatch 15 = .ok (.if_icmp .gt 30, 3) := by decide +kernel
theorem dX6_lightToWatch_18 : decode cX6_lightToWatch 18 = .ok (.aload_n 0, 1) := by decide +kernel
theorem dX6_lightToWatch_19 : decode cX6_lightToWatch 19 = .ok (.aload_n 1, 1) := by decide +kernel
theorem dX6_lightToWatch_20 : decode cX6_lightToWatch 20 = .ok (.iload 4, 2) := by decide +kernel
theorem dX6_lightToWatch_22 : decode cX6_lightToWatch 22 = .ok (.invokevirtual 36, 3) := by decide +kernel
theorem dX6_lightToWatch_25 : decode cX6_lightToWatch 25 = .ok (.istore 5, 2) := by decide +kernel
theorem dX6_lightToWatch_27 : decode cX6_lightToWatch 27 = .ok (.iload 5, 2) := by decide +kernel
theorem dX6_lightToWatch_29 : decode cX6_lightToWatch 29 = .ok (.iload_n 3, 1) := by decide +kernel
theorem dX6_lightToWatch_30 : decode cX6_lightToWatch 30 = .ok (.if_icmp .ge 9, 3) := by decide +kernel
theorem dX6_lightToWatch_33 : decode cX6_lightToWatch 33 = .ok (.iload 5, 2) := by decide +kernel
theorem dX6_lightToWatch_35 : decode cX6_lightToWatch 35 = .ok (.istore_n 3, 1) := by decide +kernel
theorem dX6_lightToWatch_36 : decode cX6_lightToWatch 36 = .ok (.iload 4, 2) := by decide +kernel
theorem dX6_lightToWatch_38 : decode cX6_lightToWatch 38 = .ok (.istore_n 2, 1) := by decide +kernel
theorem dX6_lightToWatch_39 : decode cX6_lightToWatch 39 = .ok (.iinc 4 1, 3) := by decide +kernel
theorem dX6_lightToWatch_42 : decode cX6_lightToWatch 42 = .ok (.goto (-31), 3) := by decide +kernel
theorem dX6_lightToWatch_45 : decode cX6_lightToWatch 45 = .ok (.iload_n 2, 1) := by decide +kernel
theorem dX6_lightToWatch_46 : decode cX6_lightToWatch 46 = .ok (.ireturn, 1) := by decide +kernel
theorem bX6_lightToWatch_0 {κ : gK} {M : MM} {Q : Int32 → MM → Prop} (o1 : Nat) (ho1 : twO o1)
    (h : Cl κ mX6_howManyFit [.ref 105, .ref o1] M (fun r1 M1 => G κ mX6_lightToWatch 11 [.ref 105, .ref o1, .int (-1 : Int32), .int r1, .int (1 : Int32), .null] [] M1 Q)) :
    G κ mX6_lightToWatch 0 [.ref 105, .ref o1, .null, .null, .null, .null] [] M Q := by
  refine g_iconst (v := (-1 : Int32)) dX6_lightToWatch_0 (by decide) ?_
  refine g_istore_n (i := 2) (L' := [.ref 105, .ref o1, .int (-1 : Int32), .null, .null, .null]) dX6_lightToWatch_1 rfl (Nat.le_of_ble_eq_true rfl) rfl rfl ?_
  refine g_aload_n (i := 0) dX6_lightToWatch_2 rfl rfl ?_
  refine g_aload_n (i := 1) dX6_lightToWatch_3 rfl rfl ?_
  refine gc_RX6_32 rfl (Nat.le_of_ble_eq_true rfl) dX6_lightToWatch_4 sh_105 (Nat.le_of_ble_eq_true rfl) ?_
  refine Cl.mono h (fun r1 M1 h => ?_)
  refine g_istore_n (i := 3) (L' := [.ref 105, .ref o1, .int (-1 : Int32), .int r1, .null, .null]) dX6_lightToWatch_7 rfl (Nat.le_of_ble_eq_true rfl) rfl rfl ?_
  refine g_iconst (v := (1 : Int32)) dX6_lightToWatch_8 (by decide) ?_
  refine g_istore (i := 4) (L' := [.ref 105, .ref o1, .int (-1 : Int32), .int r1, .int (1 : Int32), .null]) dX6_lightToWatch_9 (Nat.le_of_ble_eq_true rfl) rfl rfl ?_
  exact h
theorem bX6_lightToWatch_11 {κ : gK} {M : MM} {Q : Int32 → MM → Prop} (o1 : Nat) (ho1 : twO o1) (l2 : Int32) (l3 : Int32) (l4 : Int32)
    (h : (((9 : Int32) < l4 → Q l2 M) ∧ (¬ (9 : Int32) < l4 → Cl κ mX6_greatestPart [.ref 105, .ref o1, .int l4] M (fun r1 M1 => ((l3 ≤ r1 → G κ mX6_lightToWatch 39 [.ref 105, .ref o1, .int l2, .int l3, .int l4, .null] [] M1 Q) ∧ (¬ l3 ≤ r1 → G κ mX6_lightToWatch 39 [.ref 105, .ref o1, .int l4, .int r1, .int l4, .null] [] M1 Q)))))) :
    G κ mX6_lightToWatch 11 [.ref 105, .ref o1, .int l2, .int l3, .int l4, .null] [] M Q := by
  refine g_iload (i := 4) dX6_lightToWatch_11 rfl ?_
  refine g_bipush (v := (9 : Int32)) dX6_lightToWatch_13 (by decide) ?_
  refine g_icmp_gt (tgt := 45) dX6_lightToWatch_15 rfl ⟨fun hc => ?_, fun hc => ?_⟩
  · replace h := h.1 hc
    refine g_iload_n (i := 2) dX6_lightToWatch_45 rfl rfl ?_
    exact g_iret dX6_lightToWatch_46 rfl h
  · replace h := h.2 hc
    refine g_aload_n (i := 0) dX6_lightToWatch_18 rfl rfl ?_
    refine g_aload_n (i := 1) dX6_lightToWatch_19 rfl rfl ?_
    refine g_iload (i := 4) dX6_lightToWatch_20 rfl ?_
    refine gc_RX6_36 rfl (Nat.le_of_ble_eq_true rfl) dX6_lightToWatch_22 sh_105 (Nat.le_of_ble_eq_true rfl) ?_
    refine Cl.mono h (fun r1 M1 h => ?_)
    refine g_istore (i := 5) (L' := [.ref 105, .ref o1, .int l2, .int l3, .int l4, .int r1]) dX6_lightToWatch_25 (Nat.le_of_ble_eq_true rfl) rfl rfl ?_
    refine g_iload (i := 5) dX6_lightToWatch_27 rfl ?_
    refine g_iload_n (i := 3) dX6_lightToWatch_29 rfl rfl ?_
    refine g_icmp_ge (tgt := 39) dX6_lightToWatch_30 rfl ⟨fun hc => ?_, fun hc => ?_⟩
    · replace h := h.1 hc
      exact g_sub _ (sub_c (Or.inr rfl) (sub_c (Or.inr rfl) (sub_c (Or.inr rfl) (sub_c (Or.inr rfl) (sub_c (Or.inr rfl) (sub_c (Or.inl rfl) sub_n)))))) h
    · replace h := h.2 hc
      refine g_iload (i := 5) dX6_lightToWatch_33 rfl ?_
      refine g_istore_n (i := 3) (L' := [.ref 105, .ref o1, .int l2, .int r1, .int l4, .int r1]) dX6_lightToWatch_35 rfl (Nat.le_of_ble_eq_true rfl) rfl rfl ?_
      refine g_iload (i := 4) dX6_lightToWatch_36 rfl ?_
      refine g_istore_n (i := 2) (L' := [.ref 105, .ref o1, .int l4, .int r1, .int l4, .int r1]) dX6_lightToWatch_38 rfl (Nat.le_of_ble_eq_true rfl) rfl rfl ?_
      exact g_sub _ (sub_c (Or.inr rfl) (sub_c (Or.inr rfl) (sub_c (Or.inr rfl) (sub_c (Or.inr rfl) (sub_c (Or.inr rfl) (sub_c (Or.inl rfl) sub_n)))))) h
theorem bX6_lightToWatch_39 {κ : gK} {M : MM} {Q : Int32 → MM → Prop} (o1 : Nat) (ho1 : twO o1) (l2 : Int32) (l3 : Int32) (l4 : Int32)
    (h : G κ mX6_lightToWatch 11 [.ref 105, .ref o1, .int l2, .int l3, .int (l4 + 1), .null] [] M Q) :
    G κ mX6_lightToWatch 39 [.ref 105, .ref o1, .int l2, .int l3, .int l4, .null] [] M Q := by
  refine g_iinc (v := (l4 + 1)) (L' := [.ref 105, .ref o1, .int l2, .int l3, .int (l4 + 1), .null]) dX6_lightToWatch_39 rfl rfl (Nat.le_of_ble_eq_true rfl) rfl rfl ?_
  refine g_goto (tgt := 11) dX6_lightToWatch_42 rfl ?_
  exact h
theorem eX6_lightToWatch {κ : gK} {M : MM} {Q : Int32 → MM → Prop} (o1 : Nat)
    (h : G κ mX6_lightToWatch 0 [.ref 105, .ref o1, .null, .null, .null, .null] [] M Q) : Cl κ mX6_lightToWatch [.ref 105, .ref o1] M Q := g_entry 4 pl_X6_lightToWatch (Nat.le_of_ble_eq_true rfl) (L := [.ref 105, .ref o1, .null, .null, .null, .null]) rfl (g_sub _ (sub_c (Or.inr rfl) (sub_c (Or.inr rfl) (sub_c (Or.inr rfl) (sub_c (Or.inr rfl) (sub_c (Or.inr rfl) (sub_c (Or.inr rfl) sub_n)))))) h)
theorem dX6_greatestPart_0 : decode cX6_greatestPart 0 = .ok (.iconst 0, 1) := by decide +kernel
theorem dX6_greatestPart_1 : decode cX6_greatestPart 1 = .ok (.istore_n 3, 1) := by decide +kernel
theorem dX6_greatestPart_2 : decode cX6_greatestPart 2 = .ok (.iload_n 3, 1) := by decide +kernel
theorem dX6_greatestPart_3 : decode cX6_greatestPart 3 = .ok (.bipush 9, 2) := by decide +kernel
theorem dX6_greatestPart_5 : decode cX6_greatestPart 5 = .ok (.if_icmp .ge 16, 3) := by decide +kernel
theorem dX6_greatestPart_8 : decode cX6_greatestPart 8 = .ok (.aload_n 0, 1) := by decide +kernel
theorem dX6_greatestPart_9 : decode cX6_greatestPart 9 = .ok (.getfield 18, 3) := by decide +kernel
theorem dX6_greatestPart_12 : decode cX6_greatestPart 12 = .ok (.iload_n 3, 1) := by decide +kernel
theorem dX6_greatestPart_13 : decode cX6_greatestPart 13 = .ok (.iconst 0, 1) := by decide +kernel
theorem dX6_greatestPart_14 : decode cX6_greatestPart 14 = .ok (.iastore, 1) := by decide +kernel
theorem dX6_greatestPart_15 : decode cX6_greatestPart 15 = .ok (.iinc 3 1, 3) := by decide +kernel
theorem dX6_greatestPart_18 : decode cX6_greatestPart 18 = .ok (.goto (-16), 3) := by decide +kernel
theorem dX6_greatestPart_21 : decode cX6_greatestPart 21 = .ok (.iconst 0, 1) := by decide +kernel
theorem dX6_greatestPart_22 : decode cX6_greatestPart 22 = .ok (.istore_n 3, 1) := by decide +kernel
theorem dX6_greatestPart_23 : decode cX6_greatestPart 23 = .ok (.getstatic 25, 3) := by decide +kernel
theorem dX6_greatestPart_26 : decode cX6_greatestPart 26 = .ok (.astore 4, 2) := by decide +kernel
theorem dX6_greatestPart_28 : decode cX6_greatestPart 28 = .ok (.aload 4, 2) := by decide +kernel
theorem dX6_greatestPart_30 : decode cX6_greatestPart 30 = .ok (.arraylength, 1) := by decide +kernel
theorem dX6_greatestPart_31 : decode cX6_greatestPart 31 = .ok (.istore 5, 2) := by decide +kernel
theorem dX6_greatestPart_33 : decode cX6_greatestPart 33 = .ok (.iconst 0, 1) := by decide +kernel
theorem dX6_greatestPart_34 : decode cX6_greatestPart 34 = .ok (.istore 6, 2) := by decide +kernel
theorem dX6_greatestPart_36 : decode cX6_greatestPart 36 = .ok (.iload 6, 2) := by decide +kernel
theorem dX6_greatestPart_38 : decode cX6_greatestPart 38 = .ok (.iload 5, 2) := by decide +kernel
theorem dX6_greatestPart_40 : decode cX6_greatestPart 40 = .ok (.if_icmp .ge 79, 3) := by decide +kernel
theorem dX6_greatestPart_43 : decode cX6_greatestPart 43 = .ok (.aload 4, 2) := by decide +kernel
theorem dX6_greatestPart_45 : decode cX6_greatestPart 45 = .ok (.iload 6, 2) := by decide +kernel
theorem dX6_greatestPart_47 : decode cX6_greatestPart 47 = .ok (.iaload, 1) := by decide +kernel
theorem dX6_greatestPart_48 : decode cX6_greatestPart 48 = .ok (.istore 7, 2) := by decide +kernel
theorem dX6_greatestPart_50 : decode cX6_greatestPart 50 = .ok (.iconst 0, 1) := by decide +kernel
theorem dX6_greatestPart_51 : decode cX6_greatestPart 51 = .ok (.istore 8, 2) := by decide +kernel
theorem dX6_greatestPart_53 : decode cX6_greatestPart 53 = .ok (.iload 8, 2) := by decide +kernel
theorem dX6_greatestPart_55 : decode cX6_greatestPart 55 = .ok (.bipush 9, 2) := by decide +kernel
theorem dX6_greatestPart_57 : decode cX6_greatestPart 57 = .ok (.if_icmp .gt 56, 3) := by decide +kernel
theorem dX6_greatestPart_60 : decode cX6_greatestPart 60 = .ok (.aload_n 0, 1) := by decide +kernel
theorem dX6_greatestPart_61 : decode cX6_greatestPart 61 = .ok (.aload_n 1, 1) := by decide +kernel
theorem dX6_greatestPart_62 : decode cX6_greatestPart 62 = .ok (.iload 7, 2) := by decide +kernel
theorem dX6_greatestPart_64 : decode cX6_greatestPart 64 = .ok (.iload 8, 2) := by decide +kernel
theorem dX6_greatestPart_66 : decode cX6_greatestPart 66 = .ok (.invokevirtual 28, 3) := by decide +kernel
theorem dX6_greatestPart_69 : decode cX6_greatestPart 69 = .ok (.ifCond .eq 38, 3) := by decide +kernel
theorem dX6_greatestPart_72 : decode cX6_greatestPart 72 = .ok (.aload_n 0, 1) := by decide +kernel
theorem dX6_greatestPart_73 : decode cX6_greatestPart 73 = .ok (.aload_n 1, 1) := by decide +kernel
theorem dX6_greatestPart_74 : decode cX6_greatestPart 74 = .ok (.iload 7, 2) := by decide +kernel
theorem dX6_greatestPart_76 : decode cX6_greatestPart 76 = .ok (.iload 8, 2) := by decide +kernel
theorem dX6_greatestPart_78 : decode cX6_greatestPart 78 = .ok (.iload_n 2, 1) := by decide +kernel
theorem dX6_greatestPart_79 : decode cX6_greatestPart 79 = .ok (.invokevirtual 40, 3) := by decide +kernel
theorem dX6_greatestPart_82 : decode cX6_greatestPart 82 = .ok (.istore 9, 2) := by decide +kernel
theorem dX6_greatestPart_84 : decode cX6_greatestPart 84 = .ok (.aload_n 0, 1) := by decide +kernel
theorem dX6_greatestPart_85 : decode cX6_greatestPart 85 = .ok (.getfield 18, 3) := by decide +kernel
theorem dX6_greatestPart_88 : decode cX6_greatestPart 88 = .ok (.iload 9, 2) := by decide +kernel
theorem dX6_greatestPart_90 : decode cX6_greatestPart 90 = .ok (.dup2, 1) := by decide +kernel
theorem dX6_greatestPart_91 : decode cX6_greatestPart 91 = .ok (.iaload, 1) := by decide +kernel
theorem dX6_greatestPart_92 : decode cX6_greatestPart 92 = .ok (.iconst 1, 1) := by decide +kernel
theorem dX6_greatestPart_93 : decode cX6_greatestPart 93 = .ok (.iadd, 1) := by decide +kernel
theorem dX6_greatestPart_94 : decode cX6_greatestPart 94 = .ok (.iastore, 1) := by decide +kernel
theorem dX6_greatestPart_95 : decode cX6_greatestPart 95 = .ok (.iload_n 3, 1) := by decide +kernel
theorem dX6_greatestPart_96 : decode cX6_greatestPart 96 = .ok (.aload_n 0, 1) := by decide +kernel
theorem dX6_greatestPart_97 : decode cX6_greatestPart 97 = .ok (.getfield 18, 3) := by decide +kernel
theorem dX6_greatestPart_100 : decode cX6_greatestPart 100 = .ok (.iload 9, 2) := by decide +kernel
theorem dX6_greatestPart_102 : decode cX6_greatestPart 102 = .ok (.iaload, 1) := by decide +kernel
theorem dX6_greatestPart_103 : decode cX6_greatestPart 103 = .ok (.invokestatic 44, 3) := by decide +kernel
theorem dX6_greatestPart_106 : decode cX6_greatestPart 106 = .ok (.istore_n 3, 1) := by decide +kernel
theorem dX6_greatestPart_107 : decode cX6_greatestPart 107 = .ok (.iinc 8 1, 3) := by decide +kernel
theorem dX6_greatestPart_110 : decode cX6_greatestPart 110 = .ok (.goto (-57), 3) := by decide +kernel
theorem dX6_greatestPart_113 : decode cX6_greatestPart 113 = .ok (.iinc 6 1, 3) := by decide +kernel
theorem dX6_greatestPart_116 : decode cX6_greatestPart 116 = .ok (.goto (-80), 3) := by decide +kernel
theorem dX6_greatestPart_119 : decode cX6_greatestPart 119 = .ok (.iload_n 3, 1) := by decide +kernel
theorem dX6_greatestPart_120 : decode cX6_greatestPart 120 = .ok (.ireturn, 1) := by decide +kernel
theorem bX6_greatestPart_0 {κ : gK} {M : MM} {Q : Int32 → MM → Prop} (o1 : Nat) (ho1 : twO o1) (l2 : Int32)
    (h : G κ mX6_greatestPart 2 [.ref 105, .ref o1, .int l2, .int (0 : Int32), .null, .null, .null, .null, .null, .null] [] M Q) :
    G κ mX6_greatestPart 0 [.ref 105, .ref o1, .int l2, .null, .null, .null, .null, .null, .null, .null] [] M Q := by
  refine g_iconst (v := (0 : Int32)) dX6_greatestPart_0 (by decide) ?_
  refine g_istore_n (i := 3) (L' := [.ref 105, .ref o1, .int l2, .int (0 : Int32), .null, .null, .null, .null, .null, .null]) dX6_greatestPart_1 rfl (Nat.le_of_ble_eq_true rfl) rfl rfl ?_
  exact h
theorem bX6_greatestPart_2 {κ : gK} {M : MM} {Q : Int32 → MM → Prop} (o1 : Nat) (ho1 : twO o1) (l2 : Int32) (l3 : Int32)
    (h : (((9 : Int32) ≤ l3 → G κ mX6_greatestPart 36 [.ref 105, .ref o1, .int l2, .int (0 : Int32), .ref 999, .int (3 : Int32), .int (0 : Int32), .null, .null, .null] [] M Q) ∧ (¬ (9 : Int32) ≤ l3 → (vp_in l3 9) ∧ (∀ M1 : MM, M1 = (pt M 108 (l3).toNatClampNeg (0 : Int32)) → (G κ mX6_greatestPart 2 [.ref 105, .ref o1, .int l2, .int (l3 + 1), .null, .null, .null, .null, .null, .null] [] M1 Q))))) :
    G κ mX6_greatestPart 2 [.ref 105, .ref o1, .int l2, .int l3, .null, .null, .null, .null, .null, .null] [] M Q := by
  refine g_iload_n (i := 3) dX6_greatestPart_2 rfl rfl ?_
  refine g_bipush (v := (9 : Int32)) dX6_greatestPart_3 (by decide) ?_
  refine g_icmp_ge (tgt := 21) dX6_greatestPart_5 rfl ⟨fun hc => ?_, fun hc => ?_⟩
  · replace h := h.1 hc
    refine g_iconst (v := (0 : Int32)) dX6_greatestPart_21 (by decide) ?_
    refine g_istore_n (i := 3) (L' := [.ref 105, .ref o1, .int l2, .int (0 : Int32), .null, .null, .null, .null, .null, .null]) dX6_greatestPart_22 rfl (Nat.le_of_ble_eq_true rfl) rfl rfl ?_
    refine gs_RX6_25 rfl dX6_greatestPart_23 ?_
    refine g_astore (i := 4) (L' := [.ref 105, .ref o1, .int l2, .int (0 : Int32), .ref 999, .null, .null, .null, .null, .null]) dX6_greatestPart_26 (Nat.le_of_ble_eq_true rfl) rfl rfl ?_
    refine g_aload (i := 4) dX6_greatestPart_28 rfl ?_
    refine g_kindsLen dX6_greatestPart_30 ?_
    refine g_istore (i := 5) (L' := [.ref 105, .ref o1, .int l2, .int (0 : Int32), .ref 999, .int (3 : Int32), .null, .null, .null, .null]) dX6_greatestPart_31 (Nat.le_of_ble_eq_true rfl) rfl rfl ?_
    refine g_iconst (v := (0 : Int32)) dX6_greatestPart_33 (by decide) ?_
    refine g_istore (i := 6) (L' := [.ref 105, .ref o1, .int l2, .int (0 : Int32), .ref 999, .int (3 : Int32), .int (0 : Int32), .null, .null, .null]) dX6_greatestPart_34 (Nat.le_of_ble_eq_true rfl) rfl rfl ?_
    exact h
  · replace h := h.2 hc
    refine g_aload_n (i := 0) dX6_greatestPart_8 rfl rfl ?_
    refine gf_RX6_18 rfl dX6_greatestPart_9 sh_105 ?_
    refine g_iload_n (i := 3) dX6_greatestPart_12 rfl rfl ?_
    refine g_iconst (v := (0 : Int32)) dX6_greatestPart_13 (by decide) ?_
    have hv1 := h.1; replace h := h.2
    refine g_iastP dX6_greatestPart_14 sh_108 hv1 ?_
    refine g_nmM (fun M1 hM1 => ?_); replace h := h M1 hM1
    refine g_iinc (v := (l3 + 1)) (L' := [.ref 105, .ref o1, .int l2, .int (l3 + 1), .null, .null, .null, .null, .null, .null]) dX6_greatestPart_15 rfl rfl (Nat.le_of_ble_eq_true rfl) rfl rfl ?_
    refine g_goto (tgt := 2) dX6_greatestPart_18 rfl ?_
    exact h
theorem bX6_greatestPart_36 {κ : gK} {M : MM} {Q : Int32 → MM → Prop} (o1 : Nat) (ho1 : twO o1) (l2 : Int32) (l3 : Int32) (l5 : Int32) (l6 : Int32)
    (h : ((l5 ≤ l6 → Q l3 M) ∧ (¬ l5 ≤ l6 → (vp_in l6 3) ∧ (∀ v1 : Int32, v1 = (([0, 1, 3] : List Int32).getD (l6).toNatClampNeg 0) → (G κ mX6_greatestPart 53 [.ref 105, .ref o1, .int l2, .int l3, .ref 999, .int l5, .int l6, .int v1, .int (0 : Int32), .null] [] M Q))))) :
    G κ mX6_greatestPart 36 [.ref 105, .ref o1, .int l2, .int l3, .ref 999, .int l5, .int l6, .null, .null, .null] [] M Q := by
  refine g_iload (i := 6) dX6_greatestPart_36 rfl ?_
  refine g_iload (i := 5) dX6_greatestPart_38 rfl ?_
  refine g_icmp_ge (tgt := 119) dX6_greatestPart_40 rfl ⟨fun hc => ?_, fun hc => ?_⟩
  · replace h := h.1 hc
    refine g_iload_n (i := 3) dX6_greatestPart_119 rfl rfl ?_
    exact g_iret dX6_greatestPart_120 rfl h
  · replace h := h.2 hc
    refine g_aload (i := 4) dX6_greatestPart_43 rfl ?_
    refine g_iload (i := 6) dX6_greatestPart_45 rfl ?_
    have hv1 := h.1; replace h := h.2
    refine g_kindsAt dX6_greatestPart_47 hv1 ?_
    refine lv_nm (fun v1 hn1 => ?_) (x := (([0, 1, 3] : List Int32).getD (l6).toNatClampNeg 0))
    replace h := h v1 hn1
    refine g_istore (i := 7) (L' := [.ref 105, .ref o1, .int l2, .int l3, .ref 999, .int l5, .int l6, .int v1, .null, .null]) dX6_greatestPart_48 (Nat.le_of_ble_eq_true rfl) rfl rfl ?_
    refine g_iconst (v := (0 : Int32)) dX6_greatestPart_50 (by decide) ?_
    refine g_istore (i := 8) (L' := [.ref 105, .ref o1, .int l2, .int l3, .ref 999, .int l5, .int l6, .int v1, .int (0 : Int32), .null]) dX6_greatestPart_51 (Nat.le_of_ble_eq_true rfl) rfl rfl ?_
    exact h
theorem bX6_greatestPart_53 {κ : gK} {M : MM} {Q : Int32 → MM → Prop} (o1 : Nat) (ho1 : twO o1) (l2 : Int32) (l3 : Int32) (l5 : Int32) (l6 : Int32) (l7 : Int32) (l8 : Int32)
    (h : (((9 : Int32) < l8 → G κ mX6_greatestPart 36 [.ref 105, .ref o1, .int l2, .int l3, .ref 999, .int l5, .int (l6 + 1), .null, .null, .null] [] M Q) ∧ (¬ (9 : Int32) < l8 → Cl κ mX6_fits [.ref 105, .ref o1, .int l7, .int l8] M (fun r1 M1 => ((r1 = 0 → G κ mX6_greatestPart 107 [.ref 105, .ref o1, .int l2, .int l3, .ref 999, .int l5, .int l6, .int l7, .int l8, .null] [] M1 Q) ∧ (¬ r1 = 0 → Cl κ mX6_moveOf [.ref 105, .ref o1, .int l7, .int l8, .int l2] M1 (fun r2 M2 => (vp_in r2 9) ∧ (∀ M3 : MM, M3 = (pt M2 108 (r2).toNatClampNeg ((M2 108 (r2).toNatClampNeg) + (1 : Int32))) → (∀ v4 : Int32, v4 = (jmax l3 (M3 108 (r2).toNatClampNeg)) → (G κ mX6_greatestPart 107 [.ref 105, .ref o1, .int l2, .int v4, .ref 999, .int l5, .int l6, .int l7, .int l8, .null] [] M3 Q)))))))))) :
    G κ mX6_greatestPart 53 [.ref 105, .ref o1, .int l2, .int l3, .ref 999, .int l5, .int l6, .int l7, .int l8, .null] [] M Q := by
  refine g_iload (i := 8) dX6_greatestPart_53 rfl ?_
  refine g_bipush (v := (9 : Int32)) dX6_greatestPart_55 (by decide) ?_
  refine g_icmp_gt (tgt := 113) dX6_greatestPart_57 rfl ⟨fun hc => ?_, fun hc => ?_⟩
  · replace h := h.1 hc
    refine g_iinc (v := (l6 + 1)) (L' := [.ref 105, .ref o1, .int l2, .int l3, .ref 999, .int l5, .int (l6 + 1), .int l7, .int l8, .null]) dX6_greatestPart_113 rfl rfl (Nat.le_of_ble_eq_true rfl) rfl rfl ?_
    refine g_goto (tgt := 36) dX6_greatestPart_116 rfl ?_
    exact g_sub _ (sub_c (Or.inr rfl) (sub_c (Or.inr rfl) (sub_c (Or.inr rfl) (sub_c (Or.inr rfl) (sub_c (Or.inr rfl) (sub_c (Or.inr rfl) (sub_c (Or.inr rfl) (sub_c (Or.inl rfl) (sub_c (Or.inl rfl) (sub_c (Or.inr rfl) sub_n)))))))))) h
  · replace h := h.2 hc
    refine g_aload_n (i := 0) dX6_greatestPart_60 rfl rfl ?_
    refine g_aload_n (i := 1) dX6_greatestPart_61 rfl rfl ?_
    refine g_iload (i := 7) dX6_greatestPart_62 rfl ?_
    refine g_iload (i := 8) dX6_greatestPart_64 rfl ?_
    refine gc_RX6_28 rfl (Nat.le_of_ble_eq_true rfl) dX6_greatestPart_66 sh_105 (Nat.le_of_ble_eq_true rfl) ?_
    refine Cl.mono h (fun r1 M1 h => ?_)
    refine g_if_eq (tgt := 107) dX6_greatestPart_69 rfl ⟨fun hc => ?_, fun hc => ?_⟩
    · replace h := h.1 hc
      exact h
    · replace h := h.2 hc
      refine g_aload_n (i := 0) dX6_greatestPart_72 rfl rfl ?_
      refine g_aload_n (i := 1) dX6_greatestPart_73 rfl rfl ?_
      refine g_iload (i := 7) dX6_greatestPart_74 rfl ?_
      refine g_iload (i := 8) dX6_greatestPart_76 rfl ?_
      refine g_iload_n (i := 2) dX6_greatestPart_78 rfl rfl ?_
      refine gc_RX6_40 rfl (Nat.le_of_ble_eq_true rfl) dX6_greatestPart_79 sh_105 (Nat.le_of_ble_eq_true rfl) ?_
      refine Cl.mono h (fun r2 M2 h => ?_)
      refine g_istore (i := 9) (L' := [.ref 105, .ref o1, .int l2, .int l3, .ref 999, .int l5, .int l6, .int l7, .int l8, .int r2]) dX6_greatestPart_82 (Nat.le_of_ble_eq_true rfl) rfl rfl ?_
      refine g_aload_n (i := 0) dX6_greatestPart_84 rfl rfl ?_
      refine gf_RX6_18 rfl dX6_greatestPart_85 sh_105 ?_
      refine g_iload (i := 9) dX6_greatestPart_88 rfl ?_
      refine g_dup2 dX6_greatestPart_90 rfl rfl ?_
      have hv1 := h.1; replace h := h.2
      refine g_iald dX6_greatestPart_91 sh_108 hv1 ?_
      refine g_iconst (v := (1 : Int32)) dX6_greatestPart_92 (by decide) ?_
      refine g_iadd dX6_greatestPart_93 ?_
      refine g_iastP dX6_greatestPart_94 sh_108 hv1 ?_
      refine g_nmM (fun M3 hM3 => ?_); replace h := h M3 hM3
      refine g_iload_n (i := 3) dX6_greatestPart_95 rfl rfl ?_
      refine g_aload_n (i := 0) dX6_greatestPart_96 rfl rfl ?_
      refine gf_RX6_18 rfl dX6_greatestPart_97 sh_105 ?_
      refine g_iload (i := 9) dX6_greatestPart_100 rfl ?_
      refine g_iald dX6_greatestPart_102 sh_108 hv1 ?_
      refine gc_RX6_44 rfl dX6_greatestPart_103 (Nat.le_of_ble_eq_true rfl) (Nat.le_of_ble_eq_true rfl) ?_
      refine lv_nm (fun v4 hn4 => ?_) (x := (jmax l3 (M3 108 (r2).toNatClampNeg)))
      replace h := h v4 hn4
      refine g_istore_n (i := 3) (L' := [.ref 105, .ref o1, .int l2, .int v4, .ref 999, .int l5, .int l6, .int l7, .int l8, .int r2]) dX6_greatestPart_106 rfl (Nat.le_of_ble_eq_true rfl) rfl rfl ?_
      exact g_sub _ (sub_c (Or.inr rfl) (sub_c (Or.inr rfl) (sub_c (Or.inr rfl) (sub_c (Or.inr rfl) (sub_c (Or.inr rfl) (sub_c (Or.inr rfl) (sub_c (Or.inr rfl) (sub_c (Or.inr rfl) (sub_c (Or.inr rfl) (sub_c (Or.inl rfl) sub_n)))))))))) h
theorem bX6_greatestPart_107 {κ : gK} {M : MM} {Q : Int32 → MM → Prop} (o1 : Nat) (ho1 : twO o1) (l2 : Int32) (l3 : Int32) (l5 : Int32) (l6 : Int32) (l7 : Int32) (l8 : Int32)
    (h : G κ mX6_greatestPart 53 [.ref 105, .ref o1, .int l2, .int l3, .ref 999, .int l5, .int l6, .int l7, .int (l8 + 1), .null] [] M Q) :
    G κ mX6_greatestPart 107 [.ref 105, .ref o1, .int l2, .int l3, .ref 999, .int l5, .int l6, .int l7, .int l8, .null] [] M Q := by
  refine g_iinc (v := (l8 + 1)) (L' := [.ref 105, .ref o1, .int l2, .int l3, .ref 999, .int l5, .int l6, .int l7, .int (l8 + 1), .null]) dX6_greatestPart_107 rfl rfl (Nat.le_of_ble_eq_true rfl) rfl rfl ?_
  refine g_goto (tgt := 53) dX6_greatestPart_110 rfl ?_
  exact h
theorem eX6_greatestPart {κ : gK} {M : MM} {Q : Int32 → MM → Prop} (o1 : Nat) (l2 : Int32)
    (h : G κ mX6_greatestPart 0 [.ref 105, .ref o1, .int l2, .null, .null, .null, .null, .null, .null, .null] [] M Q) : Cl κ mX6_greatestPart [.ref 105, .ref o1, .int l2] M Q := g_entry 7 pl_X6_greatestPart (Nat.le_of_ble_eq_true rfl) (L := [.ref 105, .ref o1, .int l2, .null, .null, .null, .null, .null, .null, .null]) rfl (g_sub _ (sub_c (Or.inr rfl) (sub_c (Or.inr rfl) (sub_c (Or.inr rfl) (sub_c (Or.inr rfl) (sub_c (Or.inr rfl) (sub_c (Or.inr rfl) (sub_c (Or.inr rfl) (sub_c (Or.inr rfl) (sub_c (Or.inr rfl) (sub_c (Or.inr rfl) sub_n)))))))))) h)
theorem dX6_fits_0 : decode cX6_fits 0 = .ok (.iconst 0, 1) := by decide +kernel
theorem dX6_fits_1 : decode cX6_fits 1 = .ok (.istore 4, 2) := by decide +kernel
theorem dX6_fits_3 : decode cX6_fits 3 = .ok (.iload 4, 2) := by decide +kernel
theorem dX6_fits_5 : decode cX6_fits 5 = .ok (.aload_n 0, 1) := by decide +kernel
theorem dX6_fits_6 : decode cX6_fits 6 = .ok (.getfield 21, 3) := by decide +kernel
theorem dX6_fits_9 : decode cX6_fits 9 = .ok (.if_icmp .ge 35, 3) := by decide +kernel
theorem dX6_fits_12 : decode cX6_fits 12 = .ok (.aload_n 0, 1) := by decide +kernel
theorem dX6_fits_13 : decode cX6_fits 13 = .ok (.aload_n 1, 1) := by decide +kernel
theorem dX6_fits_14 : decode cX6_fits 14 = .ok (.iload_n 2, 1) := by decide +kernel
theorem dX6_fits_15 : decode cX6_fits 15 = .ok (.iload_n 3, 1) := by decide +kernel
theorem dX6_fits_16 : decode cX6_fits 16 = .ok (.aload_n 0, 1) := by decide +kernel
theorem dX6_fits_17 : decode cX6_fits 17 = .ok (.getfield 9, 3) := by decide +kernel
theorem dX6_fits_20 : decode cX6_fits 20 = .ok (.iload 4, 2) := by decide +kernel
theorem dX6_fits_22 : decode cX6_fits 22 = .ok (.iaload, 1) := by decide +kernel
theorem dX6_fits_23 : decode cX6_fits 23 = .ok (.invokevirtual 40, 3) := by decide +kernel
theorem dX6_fits_26 : decode cX6_fits 26 = .ok (.aload_n 0, 1) := by decide +kernel
theorem dX6_fits_27 : decode cX6_fits 27 = .ok (.getfield 15, 3) := by decide +kernel
theorem dX6_fits_30 : decode cX6_fits 30 = .ok (.iload 4, 2) := by decide +kernel
theorem dX6_fits_32 : decode cX6_fits 32 = .ok (.iaload, 1) := by decide +kernel
theorem dX6_fits_33 : decode cX6_fits 33 = .ok (.if_icmp .eq 5, 3) := by decide +kernel
theorem dX6_fits_36 : decode cX6_fits 36 = .ok (.iconst 0, 1) := by decide +kernel
theorem dX6_fits_37 : decode cX6_fits 37 = .ok (.ireturn, 1) := by decide +kernel
theorem dX6_fits_38 : decode cX6_fits 38 = .ok (.iinc 4 1, 3) := by decide +kernel
theorem dX6_fits_41 : decode cX6_fits 41 = .ok (.goto (-38), 3) := by decide +kernel
theorem dX6_fits_44 : decode cX6_fits 44 = .ok (.iconst 1, 1) := by decide +kernel
theorem dX6_fits_45 : decode cX6_fits 45 = .ok (.ireturn, 1) := by decide +kernel
theorem bX6_fits_0 {κ : gK} {M : MM} {Q : Int32 → MM → Prop} (o1 : Nat) (ho1 : twO o1) (l2 : Int32) (l3 : Int32)
    (h : G κ mX6_fits 3 [.ref 105, .ref o1, .int l2, .int l3, .int (0 : Int32)] [] M Q) :
    G κ mX6_fits 0 [.ref 105, .ref o1, .int l2, .int l3, .null] [] M Q := by
  refine g_iconst (v := (0 : Int32)) dX6_fits_0 (by decide) ?_
  refine g_istore (i := 4) (L' := [.ref 105, .ref o1, .int l2, .int l3, .int (0 : Int32)]) dX6_fits_1 (Nat.le_of_ble_eq_true rfl) rfl rfl ?_
  exact h
theorem bX6_fits_3 {κ : gK} {M : MM} {Q : Int32 → MM → Prop} (o1 : Nat) (ho1 : twO o1) (l2 : Int32) (l3 : Int32) (l4 : Int32)
    (h : (((M 105 3) ≤ l4 → Q (1 : Int32) M) ∧ (¬ (M 105 3) ≤ l4 → (vp_in l4 6) ∧ (Cl κ mX6_moveOf [.ref 105, .ref o1, .int l2, .int l3, .int (M 106 (l4).toNatClampNeg)] M (fun r1 M1 => ((r1 = (M1 107 (l4).toNatClampNeg) → G κ mX6_fits 3 [.ref 105, .ref o1, .int l2, .int l3, .int (l4 + 1)] [] M1 Q) ∧ (¬ r1 = (M1 107 (l4).toNatClampNeg) → Q (0 : Int32) M1))))))) :
    G κ mX6_fits 3 [.ref 105, .ref o1, .int l2, .int l3, .int l4] [] M Q := by
  refine g_iload (i := 4) dX6_fits_3 rfl ?_
  refine g_aload_n (i := 0) dX6_fits_5 rfl rfl ?_
  refine gf_RX6_21 rfl dX6_fits_6 sh_105 ?_
  refine g_icmp_ge (tgt := 44) dX6_fits_9 rfl ⟨fun hc => ?_, fun hc => ?_⟩
  · replace h := h.1 hc
    refine g_iconst (v := (1 : Int32)) dX6_fits_44 (by decide) ?_
    exact g_zret dX6_fits_45 rfl rfl h
  · replace h := h.2 hc
    refine g_aload_n (i := 0) dX6_fits_12 rfl rfl ?_
    refine g_aload_n (i := 1) dX6_fits_13 rfl rfl ?_
    refine g_iload_n (i := 2) dX6_fits_14 rfl rfl ?_
    refine g_iload_n (i := 3) dX6_fits_15 rfl rfl ?_
    refine g_aload_n (i := 0) dX6_fits_16 rfl rfl ?_
    refine gf_RX6_9 rfl dX6_fits_17 sh_105 ?_
    refine g_iload (i := 4) dX6_fits_20 rfl ?_
    have hv1 := h.1; replace h := h.2
    refine g_iald dX6_fits_22 sh_106 hv1 ?_
    refine gc_RX6_40 rfl (Nat.le_of_ble_eq_true rfl) dX6_fits_23 sh_105 (Nat.le_of_ble_eq_true rfl) ?_
    refine Cl.mono h (fun r1 M1 h => ?_)
    refine g_aload_n (i := 0) dX6_fits_26 rfl rfl ?_
    refine gf_RX6_15 rfl dX6_fits_27 sh_105 ?_
    refine g_iload (i := 4) dX6_fits_30 rfl ?_
    refine g_iald dX6_fits_32 sh_107 hv1 ?_
    refine g_icmp_eq (tgt := 38) dX6_fits_33 rfl ⟨fun hc => ?_, fun hc => ?_⟩
    · replace h := h.1 hc
      refine g_iinc (v := (l4 + 1)) (L' := [.ref 105, .ref o1, .int l2, .int l3, .int (l4 + 1)]) dX6_fits_38 rfl rfl (Nat.le_of_ble_eq_true rfl) rfl rfl ?_
      refine g_goto (tgt := 3) dX6_fits_41 rfl ?_
      exact h
    · replace h := h.2 hc
      refine g_iconst (v := (0 : Int32)) dX6_fits_36 (by decide) ?_
      exact g_zret dX6_fits_37 rfl rfl h
theorem eX6_fits {κ : gK} {M : MM} {Q : Int32 → MM → Prop} (o1 : Nat) (l2 : Int32) (l3 : Int32)
    (h : G κ mX6_fits 0 [.ref 105, .ref o1, .int l2, .int l3, .null] [] M Q) : Cl κ mX6_fits [.ref 105, .ref o1, .int l2, .int l3] M Q := g_entry 1 pl_X6_fits (Nat.le_of_ble_eq_true rfl) (L := [.ref 105, .ref o1, .int l2, .int l3, .null]) rfl (g_sub _ (sub_c (Or.inr rfl) (sub_c (Or.inr rfl) (sub_c (Or.inr rfl) (sub_c (Or.inr rfl) (sub_c (Or.inr rfl) sub_n))))) h)
theorem dX6_moveOf_0 : decode cX6_moveOf 0 = .ok (.iload_n 3, 1) := by decide +kernel
theorem dX6_moveOf_1 : decode cX6_moveOf 1 = .ok (.iload 4, 2) := by decide +kernel
theorem dX6_moveOf_3 : decode cX6_moveOf 3 = .ok (.if_icmp .lt 11, 3) := by decide +kernel
theorem dX6_moveOf_6 : decode cX6_moveOf 6 = .ok (.aload_n 1, 1) := by decide +kernel
theorem dX6_moveOf_7 : decode cX6_moveOf 7 = .ok (.iload_n 2, 1) := by decide +kernel
theorem dX6_moveOf_8 : decode cX6_moveOf 8 = .ok (.invokevirtual 50, 3) := by decide +kernel
theorem dX6_moveOf_11 : decode cX6_moveOf 11 = .ok (.goto 4, 3) := by decide +kernel
theorem dX6_moveOf_14 : decode cX6_moveOf 14 = .ok (.iconst 0, 1) := by decide +kernel
theorem dX6_moveOf_15 : decode cX6_moveOf 15 = .ok (.ireturn, 1) := by decide +kernel
theorem bX6_moveOf_0 {κ : gK} {M : MM} {Q : Int32 → MM → Prop} (o1 : Nat) (ho1 : twO o1) (l2 : Int32) (l3 : Int32) (l4 : Int32)
    (h : ((l3 < l4 → G κ mX6_moveOf 15 [.null, .null, .null, .null, .null] [.int (0 : Int32)] M Q) ∧ (¬ l3 < l4 → Cl κ mX9_strideOf [.ref o1, .int l2] M (fun r1 M1 => G κ mX6_moveOf 15 [.null, .null, .null, .null, .null] [.int r1] M1 Q)))) :
    G κ mX6_moveOf 0 [.null, .ref o1, .int l2, .int l3, .int l4] [] M Q := by
  refine g_iload_n (i := 3) dX6_moveOf_0 rfl rfl ?_
  refine g_iload (i := 4) dX6_moveOf_1 rfl ?_
  refine g_icmp_lt (tgt := 14) dX6_moveOf_3 rfl ⟨fun hc => ?_, fun hc => ?_⟩
  · replace h := h.1 hc
    refine g_iconst (v := (0 : Int32)) dX6_moveOf_14 (by decide) ?_
    exact g_sub _ (sub_c (Or.inr rfl) (sub_c (Or.inl rfl) (sub_c (Or.inl rfl) (sub_c (Or.inl rfl) (sub_c (Or.inl rfl) sub_n))))) h
  · replace h := h.2 hc
    refine g_aload_n (i := 1) dX6_moveOf_6 rfl rfl ?_
    refine g_iload_n (i := 2) dX6_moveOf_7 rfl rfl ?_
    refine gc_RX6_50 rfl (Nat.le_of_ble_eq_true rfl) dX6_moveOf_8 ho1.1 (Nat.le_of_ble_eq_true rfl) ?_
    refine Cl.mono h (fun r1 M1 h => ?_)
    refine g_goto (tgt := 15) dX6_moveOf_11 rfl ?_
    exact g_sub _ (sub_c (Or.inr rfl) (sub_c (Or.inl rfl) (sub_c (Or.inl rfl) (sub_c (Or.inl rfl) (sub_c (Or.inl rfl) sub_n))))) h
theorem bX6_moveOf_15 {κ : gK} {M : MM} {Q : Int32 → MM → Prop} (o1 : Nat) (ho1 : twO o1) (s0 : Int32)
    (h : Q s0 M) :
    G κ mX6_moveOf 15 [.null, .null, .null, .null, .null] [.int s0] M Q := by
  exact g_iret dX6_moveOf_15 rfl h
theorem eX6_moveOf {κ : gK} {M : MM} {Q : Int32 → MM → Prop} (o1 : Nat) (l2 : Int32) (l3 : Int32) (l4 : Int32)
    (h : G κ mX6_moveOf 0 [.null, .ref o1, .int l2, .int l3, .int l4] [] M Q) : Cl κ mX6_moveOf [.ref 105, .ref o1, .int l2, .int l3, .int l4] M Q := g_entry 0 pl_X6_moveOf (Nat.le_of_ble_eq_true rfl) (L := [.ref 105, .ref o1, .int l2, .int l3, .int l4]) rfl (g_sub _ (sub_c (Or.inl rfl) (sub_c (Or.inr rfl) (sub_c (Or.inr rfl) (sub_c (Or.inr rfl) (sub_c (Or.inr rfl) sub_n))))) h)
