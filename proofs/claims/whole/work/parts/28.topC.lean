theorem dX10_met_0 : decode cX10_met 0 = .ok (.aload_n 0, 1) := by decide +kernel
theorem dX10_met_1 : decode cX10_met 1 = .ok (.getfield 12, 3) := by decide +kernel
theorem dX10_met_4 : decode cX10_met 4 = .ok (.iload_n 1, 1) := by decide +kernel
theorem dX10_met_5 : decode cX10_met 5 = .ok (.invokevirtual 163, 3) := by decide +kernel
theorem dX10_met_8 : decode cX10_met 8 = .ok (.ifCond .eq 19, 3) := by decide +kernel
theorem dX10_met_11 : decode cX10_met 11 = .ok (.aload_n 0, 1) := by decide +kernel
theorem dX10_met_12 : decode cX10_met 12 = .ok (.getfield 12, 3) := by decide +kernel
theorem dX10_met_15 : decode cX10_met 15 = .ok (.iload_n 2, 1) := by decide +kernel
theorem dX10_met_16 : decode cX10_met 16 = .ok (.invokevirtual 163, 3) := by decide +kernel
theorem dX10_met_19 : decode cX10_met 19 = .ok (.ifCond .eq 8, 3) := by decide +kernel
theorem dX10_met_22 : decode cX10_met 22 = .ok (.iload_n 1, 1) := by decide +kernel
theorem dX10_met_23 : decode cX10_met 23 = .ok (.iload_n 2, 1) := by decide +kernel
theorem dX10_met_24 : decode cX10_met 24 = .ok (.if_icmp .ne 6, 3) := by decide +kernel
theorem dX10_met_27 : decode cX10_met 27 = .ok (.ldc 167, 2) := by decide +kernel
theorem dX10_met_29 : decode cX10_met 29 = .ok (.ireturn, 1) := by decide +kernel
theorem dX10_met_30 : decode cX10_met 30 = .ok (.aload_n 0, 1) := by decide +kernel
theorem dX10_met_31 : decode cX10_met 31 = .ok (.getfield 74, 3) := by decide +kernel
theorem dX10_met_34 : decode cX10_met 34 = .ok (.getfield 157, 3) := by decide +kernel
theorem dX10_met_37 : decode cX10_met 37 = .ok (.bipush 10, 2) := by decide +kernel
theorem dX10_met_39 : decode cX10_met 39 = .ok (.if_icmp .lt 6, 3) := by decide +kernel
theorem dX10_met_42 : decode cX10_met 42 = .ok (.ldc 96, 2) := by decide +kernel
theorem dX10_met_44 : decode cX10_met 44 = .ok (.ireturn, 1) := by decide +kernel
theorem dX10_met_45 : decode cX10_met 45 = .ok (.aload_n 0, 1) := by decide +kernel
theorem dX10_met_46 : decode cX10_met 46 = .ok (.getfield 74, 3) := by decide +kernel
theorem dX10_met_49 : decode cX10_met 49 = .ok (.iload_n 1, 1) := by decide +kernel
theorem dX10_met_50 : decode cX10_met 50 = .ok (.iload_n 2, 1) := by decide +kernel
theorem dX10_met_51 : decode cX10_met 51 = .ok (.iload_n 3, 1) := by decide +kernel
theorem dX10_met_52 : decode cX10_met 52 = .ok (.invokevirtual 256, 3) := by decide +kernel
theorem dX10_met_55 : decode cX10_met 55 = .ok (.ireturn, 1) := by decide +kernel
theorem bX10_met_0 {κ : gK} {M : MM} {Q : Int32 → MM → Prop} (l1 : Int32) (l2 : Int32) (l3 : Int32)
    (h : Cl κ mX9_hasPerson [.ref 1, .int l1] M (fun r1 M1 => ((r1 = 0 → G κ mX10_met 27 [.null, .null, .null, .null] [] M1 Q) ∧ (¬ r1 = 0 → Cl κ mX9_hasPerson [.ref 1, .int l2] M1 (fun r2 M2 => ((r2 = 0 → G κ mX10_met 27 [.null, .null, .null, .null] [] M2 Q) ∧ (¬ r2 = 0 → ((l1 = l2 → G κ mX10_met 27 [.null, .null, .null, .null] [] M2 Q) ∧ (¬ l1 = l2 → (((M2 109 5) < (10 : Int32) → Cl κ mX3_add [.ref 109, .int l1, .int l2, .int l3] M2 (fun r3 M3 => Q r3 M3)) ∧ (¬ (M2 109 5) < (10 : Int32) → Q (-1000000004 : Int32) M2))))))))))) :
    G κ mX10_met 0 [.ref 0, .int l1, .int l2, .int l3] [] M Q := by
  refine g_aload_n (i := 0) dX10_met_0 rfl rfl ?_
  refine gf_RX10_12 rfl dX10_met_1 sh_0 ?_
  refine g_iload_n (i := 1) dX10_met_4 rfl rfl ?_
  refine gc_RX10_163 rfl (Nat.le_of_ble_eq_true rfl) dX10_met_5 sh_1 (Nat.le_of_ble_eq_true rfl) ?_
  refine Cl.mono h (fun r1 M1 h => ?_)
  refine g_if_eq (tgt := 27) dX10_met_8 rfl ⟨fun hc => ?_, fun hc => ?_⟩
  · replace h := h.1 hc
    exact g_sub _ (sub_c (Or.inl rfl) (sub_c (Or.inl rfl) (sub_c (Or.inl rfl) (sub_c (Or.inl rfl) sub_n)))) h
  · replace h := h.2 hc
    refine g_aload_n (i := 0) dX10_met_11 rfl rfl ?_
    refine gf_RX10_12 rfl dX10_met_12 sh_0 ?_
    refine g_iload_n (i := 2) dX10_met_15 rfl rfl ?_
    refine gc_RX10_163 rfl (Nat.le_of_ble_eq_true rfl) dX10_met_16 sh_1 (Nat.le_of_ble_eq_true rfl) ?_
    refine Cl.mono h (fun r2 M2 h => ?_)
    refine g_if_eq (tgt := 27) dX10_met_19 rfl ⟨fun hc => ?_, fun hc => ?_⟩
    · replace h := h.1 hc
      exact g_sub _ (sub_c (Or.inl rfl) (sub_c (Or.inl rfl) (sub_c (Or.inl rfl) (sub_c (Or.inl rfl) sub_n)))) h
    · replace h := h.2 hc
      refine g_iload_n (i := 1) dX10_met_22 rfl rfl ?_
      refine g_iload_n (i := 2) dX10_met_23 rfl rfl ?_
      refine g_icmp_ne (tgt := 30) dX10_met_24 rfl ⟨fun hc => ?_, fun hc => ?_⟩
      · replace h := h.1 hc
        exact g_sub _ (sub_c (Or.inl rfl) (sub_c (Or.inl rfl) (sub_c (Or.inl rfl) (sub_c (Or.inl rfl) sub_n)))) h
      · replace h := h.2 hc
        refine g_aload_n (i := 0) dX10_met_30 rfl rfl ?_
        refine gf_RX10_74 rfl dX10_met_31 sh_0 ?_
        refine gf_RX10_157 rfl dX10_met_34 sh_109 ?_
        refine g_bipush (v := (10 : Int32)) dX10_met_37 (by decide) ?_
        refine g_icmp_lt (tgt := 45) dX10_met_39 rfl ⟨fun hc => ?_, fun hc => ?_⟩
        · replace h := h.1 hc
          refine g_aload_n (i := 0) dX10_met_45 rfl rfl ?_
          refine gf_RX10_74 rfl dX10_met_46 sh_0 ?_
          refine g_iload_n (i := 1) dX10_met_49 rfl rfl ?_
          refine g_iload_n (i := 2) dX10_met_50 rfl rfl ?_
          refine g_iload_n (i := 3) dX10_met_51 rfl rfl ?_
          refine gc_RX10_256 rfl (Nat.le_of_ble_eq_true rfl) dX10_met_52 sh_109 (Nat.le_of_ble_eq_true rfl) ?_
          refine Cl.mono h (fun r3 M3 h => ?_)
          exact g_iret dX10_met_55 rfl h
        · replace h := h.2 hc
          refine g_ldc dX10_met_42 wt_310 ?_
          exact g_iret dX10_met_44 rfl h
theorem bX10_met_27 {κ : gK} {M : MM} {Q : Int32 → MM → Prop} 
    (h : Q (-1000000001 : Int32) M) :
    G κ mX10_met 27 [.null, .null, .null, .null] [] M Q := by
  refine g_ldc dX10_met_27 wt_468 ?_
  exact g_iret dX10_met_29 rfl h
theorem eX10_met {κ : gK} {M : MM} {Q : Int32 → MM → Prop} (l1 : Int32) (l2 : Int32) (l3 : Int32)
    (h : G κ mX10_met 0 [.ref 0, .int l1, .int l2, .int l3] [] M Q) : Cl κ mX10_met [.ref 0, .int l1, .int l2, .int l3] M Q := g_entry 0 pl_X10_met (Nat.le_of_ble_eq_true rfl) (L := [.ref 0, .int l1, .int l2, .int l3]) rfl (g_sub _ (sub_c (Or.inr rfl) (sub_c (Or.inr rfl) (sub_c (Or.inr rfl) (sub_c (Or.inr rfl) sub_n)))) h)
theorem dX10_write_0 : decode cX10_write 0 = .ok (.aload_n 0, 1) := by decide +kernel
theorem dX10_write_1 : decode cX10_write 1 = .ok (.getfield 12, 3) := by decide +kernel
theorem dX10_write_4 : decode cX10_write 4 = .ok (.iload_n 1, 1) := by decide +kernel
theorem dX10_write_5 : decode cX10_write 5 = .ok (.invokevirtual 163, 3) := by decide +kernel
theorem dX10_write_8 : decode cX10_write 8 = .ok (.ifCond .eq 14, 3) := by decide +kernel
theorem dX10_write_11 : decode cX10_write 11 = .ok (.aload_n 0, 1) := by decide +kernel
theorem dX10_write_12 : decode cX10_write 12 = .ok (.getfield 12, 3) := by decide +kernel
theorem dX10_write_15 : decode cX10_write 15 = .ok (.iload_n 2, 1) := by decide +kernel
theorem dX10_write_16 : decode cX10_write 16 = .ok (.invokevirtual 184, 3) := by decide +kernel
theorem dX10_write_19 : decode cX10_write 19 = .ok (.ifCond .ne 6, 3) := by decide +kernel
theorem dX10_write_22 : decode cX10_write 22 = .ok (.ldc 167, 2) := by decide +kernel
theorem dX10_write_24 : decode cX10_write 24 = .ok (.ireturn, 1) := by decide +kernel
theorem dX10_write_25 : decode cX10_write 25 = .ok (.aload_n 0, 1) := by decide +kernel
theorem dX10_write_26 : decode cX10_write 26 = .ok (.getfield 81, 3) := by decide +kernel
theorem dX10_write_29 : decode cX10_write 29 = .ok (.getfield 161, 3) := by decide +kernel
theorem dX10_write_32 : decode cX10_write 32 = .ok (.bipush 15, 2) := by decide +kernel
theorem dX10_write_34 : decode cX10_write 34 = .ok (.if_icmp .lt 6, 3) := by decide +kernel
theorem dX10_write_37 : decode cX10_write 37 = .ok (.ldc 96, 2) := by decide +kernel
theorem dX10_write_39 : decode cX10_write 39 = .ok (.ireturn, 1) := by decide +kernel
theorem dX10_write_40 : decode cX10_write 40 = .ok (.aload_n 0, 1) := by decide +kernel
theorem dX10_write_41 : decode cX10_write 41 = .ok (.getfield 81, 3) := by decide +kernel
theorem dX10_write_44 : decode cX10_write 44 = .ok (.iload_n 1, 1) := by decide +kernel
theorem dX10_write_45 : decode cX10_write 45 = .ok (.iload_n 2, 1) := by decide +kernel
theorem dX10_write_46 : decode cX10_write 46 = .ok (.iload_n 3, 1) := by decide +kernel
theorem dX10_write_47 : decode cX10_write 47 = .ok (.invokevirtual 259, 3) := by decide +kernel
theorem dX10_write_50 : decode cX10_write 50 = .ok (.ireturn, 1) := by decide +kernel
theorem bX10_write_0 {κ : gK} {M : MM} {Q : Int32 → MM → Prop} (l1 : Int32) (l2 : Int32) (l3 : Int32)
    (h : Cl κ mX9_hasPerson [.ref 1, .int l1] M (fun r1 M1 => ((r1 = 0 → G κ mX10_write 22 [.null, .null, .null, .null] [] M1 Q) ∧ (¬ r1 = 0 → Cl κ mX9_hasLayer [.ref 1, .int l2] M1 (fun r2 M2 => ((r2 = 0 → G κ mX10_write 22 [.null, .null, .null, .null] [] M2 Q) ∧ (¬ r2 = 0 → (((M2 115 3) < (15 : Int32) → Cl κ mX0_add [.ref 115, .int l1, .int l2, .int l3] M2 (fun r3 M3 => Q r3 M3)) ∧ (¬ (M2 115 3) < (15 : Int32) → Q (-1000000004 : Int32) M2))))))))) :
    G κ mX10_write 0 [.ref 0, .int l1, .int l2, .int l3] [] M Q := by
  refine g_aload_n (i := 0) dX10_write_0 rfl rfl ?_
  refine gf_RX10_12 rfl dX10_write_1 sh_0 ?_
  refine g_iload_n (i := 1) dX10_write_4 rfl rfl ?_
  refine gc_RX10_163 rfl (Nat.le_of_ble_eq_true rfl) dX10_write_5 sh_1 (Nat.le_of_ble_eq_true rfl) ?_
  refine Cl.mono h (fun r1 M1 h => ?_)
  refine g_if_eq (tgt := 22) dX10_write_8 rfl ⟨fun hc => ?_, fun hc => ?_⟩
  · replace h := h.1 hc
    exact g_sub _ (sub_c (Or.inl rfl) (sub_c (Or.inl rfl) (sub_c (Or.inl rfl) (sub_c (Or.inl rfl) sub_n)))) h
  · replace h := h.2 hc
    refine g_aload_n (i := 0) dX10_write_11 rfl rfl ?_
    refine gf_RX10_12 rfl dX10_write_12 sh_0 ?_
    refine g_iload_n (i := 2) dX10_write_15 rfl rfl ?_
    refine gc_RX10_184 rfl (Nat.le_of_ble_eq_true rfl) dX10_write_16 sh_1 (Nat.le_of_ble_eq_true rfl) ?_
    refine Cl.mono h (fun r2 M2 h => ?_)
    refine g_if_ne (tgt := 25) dX10_write_19 rfl ⟨fun hc => ?_, fun hc => ?_⟩
    · replace h := h.1 hc
      exact g_sub _ (sub_c (Or.inl rfl) (sub_c (Or.inl rfl) (sub_c (Or.inl rfl) (sub_c (Or.inl rfl) sub_n)))) h
    · replace h := h.2 hc
      refine g_aload_n (i := 0) dX10_write_25 rfl rfl ?_
      refine gf_RX10_81 rfl dX10_write_26 sh_0 ?_
      refine gf_RX10_161 rfl dX10_write_29 sh_115 ?_
      refine g_bipush (v := (15 : Int32)) dX10_write_32 (by decide) ?_
      refine g_icmp_lt (tgt := 40) dX10_write_34 rfl ⟨fun hc => ?_, fun hc => ?_⟩
      · replace h := h.1 hc
        refine g_aload_n (i := 0) dX10_write_40 rfl rfl ?_
        refine gf_RX10_81 rfl dX10_write_41 sh_0 ?_
        refine g_iload_n (i := 1) dX10_write_44 rfl rfl ?_
        refine g_iload_n (i := 2) dX10_write_45 rfl rfl ?_
        refine g_iload_n (i := 3) dX10_write_46 rfl rfl ?_
        refine gc_RX10_259 rfl (Nat.le_of_ble_eq_true rfl) dX10_write_47 sh_115 (Nat.le_of_ble_eq_true rfl) ?_
        refine Cl.mono h (fun r3 M3 h => ?_)
        exact g_iret dX10_write_50 rfl h
      · replace h := h.2 hc
        refine g_ldc dX10_write_37 wt_310 ?_
        exact g_iret dX10_write_39 rfl h
theorem bX10_write_22 {κ : gK} {M : MM} {Q : Int32 → MM → Prop} 
    (h : Q (-1000000001 : Int32) M) :
    G κ mX10_write 22 [.null, .null, .null, .null] [] M Q := by
  refine g_ldc dX10_write_22 wt_468 ?_
  exact g_iret dX10_write_24 rfl h
theorem eX10_write {κ : gK} {M : MM} {Q : Int32 → MM → Prop} (l1 : Int32) (l2 : Int32) (l3 : Int32)
    (h : G κ mX10_write 0 [.ref 0, .int l1, .int l2, .int l3] [] M Q) : Cl κ mX10_write [.ref 0, .int l1, .int l2, .int l3] M Q := g_entry 0 pl_X10_write (Nat.le_of_ble_eq_true rfl) (L := [.ref 0, .int l1, .int l2, .int l3]) rfl (g_sub _ (sub_c (Or.inr rfl) (sub_c (Or.inr rfl) (sub_c (Or.inr rfl) (sub_c (Or.inr rfl) sub_n)))) h)
theorem dX10_tear_0 : decode cX10_tear 0 = .ok (.aload_n 0, 1) := by decide +kernel
theorem dX10_tear_1 : decode cX10_tear 1 = .ok (.invokevirtual 119, 3) := by decide +kernel
theorem dX10_tear_4 : decode cX10_tear 4 = .ok (.ireturn, 1) := by decide +kernel
theorem bX10_tear_0 {κ : gK} {M : MM} {Q : Int32 → MM → Prop} 
    (h : Cl κ mX10_tearAll [.ref 0] M (fun r1 M1 => Q r1 M1)) :
    G κ mX10_tear 0 [.ref 0] [] M Q := by
  refine g_aload_n (i := 0) dX10_tear_0 rfl rfl ?_
  refine gc_RX10_119 rfl (Nat.le_of_ble_eq_true rfl) dX10_tear_1 sh_0 (Nat.le_of_ble_eq_true rfl) ?_
  refine Cl.mono h (fun r1 M1 h => ?_)
  exact g_iret dX10_tear_4 rfl h
theorem eX10_tear {κ : gK} {M : MM} {Q : Int32 → MM → Prop} 
    (h : G κ mX10_tear 0 [.ref 0] [] M Q) : Cl κ mX10_tear [.ref 0] M Q := g_entry 0 pl_X10_tear (Nat.le_of_ble_eq_true rfl) (L := [.ref 0]) rfl (g_sub _ (sub_c (Or.inr rfl) sub_n) h)
theorem dX10_judge_0 : decode cX10_judge 0 = .ok (.aload_n 0, 1) := by decide +kernel
theorem dX10_judge_1 : decode cX10_judge 1 = .ok (.getfield 81, 3) := by decide +kernel
theorem dX10_judge_4 : decode cX10_judge 4 = .ok (.aload_n 0, 1) := by decide +kernel
theorem dX10_judge_5 : decode cX10_judge 5 = .ok (.getfield 29, 3) := by decide +kernel
theorem dX10_judge_8 : decode cX10_judge 8 = .ok (.invokevirtual 260, 3) := by decide +kernel
theorem dX10_judge_11 : decode cX10_judge 11 = .ok (.ireturn, 1) := by decide +kernel
theorem bX10_judge_0 {κ : gK} {M : MM} {Q : Int32 → MM → Prop} 
    (h : Cl κ mX0_firstWrong [.ref 115, .ref 13] M (fun r1 M1 => Q r1 M1)) :
    G κ mX10_judge 0 [.ref 0] [] M Q := by
  refine g_aload_n (i := 0) dX10_judge_0 rfl rfl ?_
  refine gf_RX10_81 rfl dX10_judge_1 sh_0 ?_
  refine g_aload_n (i := 0) dX10_judge_4 rfl rfl ?_
  refine gf_RX10_29 rfl dX10_judge_5 sh_0 ?_
  refine gc_RX10_260 rfl (Nat.le_of_ble_eq_true rfl) dX10_judge_8 sh_115 (Nat.le_of_ble_eq_true rfl) ?_
  refine Cl.mono h (fun r1 M1 h => ?_)
  exact g_iret dX10_judge_11 rfl h
theorem eX10_judge {κ : gK} {M : MM} {Q : Int32 → MM → Prop} 
    (h : G κ mX10_judge 0 [.ref 0] [] M Q) : Cl κ mX10_judge [.ref 0] M Q := g_entry 0 pl_X10_judge (Nat.le_of_ble_eq_true rfl) (L := [.ref 0]) rfl (g_sub _ (sub_c (Or.inr rfl) sub_n) h)
theorem dX10_seed_0 : decode cX10_seed 0 = .ok (.iload_n 1, 1) := by decide +kernel
theorem dX10_seed_1 : decode cX10_seed 1 = .ok (.ifCond .ge 6, 3) := by decide +kernel
theorem dX10_seed_4 : decode cX10_seed 4 = .ok (.ldc 92, 2) := by decide +kernel
theorem dX10_seed_6 : decode cX10_seed 6 = .ok (.ireturn, 1) := by decide +kernel
theorem dX10_seed_7 : decode cX10_seed 7 = .ok (.aload_n 0, 1) := by decide +kernel
theorem dX10_seed_8 : decode cX10_seed 8 = .ok (.getfield 89, 3) := by decide +kernel
theorem dX10_seed_11 : decode cX10_seed 11 = .ok (.istore_n 2, 1) := by decide +kernel
theorem dX10_seed_12 : decode cX10_seed 12 = .ok (.aload_n 0, 1) := by decide +kernel
theorem dX10_seed_13 : decode cX10_seed 13 = .ok (.iload_n 1, 1) := by decide +kernel
theorem dX10_seed_14 : decode cX10_seed 14 = .ok (.putfield 89, 3) := by decide +kernel
theorem dX10_seed_17 : decode cX10_seed 17 = .ok (.iload_n 2, 1) := by decide +kernel
theorem dX10_seed_18 : decode cX10_seed 18 = .ok (.ireturn, 1) := by decide +kernel
theorem bX10_seed_0 {κ : gK} {M : MM} {Q : Int32 → MM → Prop} (l1 : Int32)
    (h : ((0 ≤ l1 → ∀ M1 : MM, M1 = (pt M 0 13 l1) → (Q (M 0 13) M1)) ∧ (¬ 0 ≤ l1 → Q (-1000000002 : Int32) M))) :
    G κ mX10_seed 0 [.ref 0, .int l1, .null] [] M Q := by
  refine g_iload_n (i := 1) dX10_seed_0 rfl rfl ?_
  refine g_if_ge (tgt := 7) dX10_seed_1 rfl ⟨fun hc => ?_, fun hc => ?_⟩
  · replace h := h.1 hc
    refine g_aload_n (i := 0) dX10_seed_7 rfl rfl ?_
    refine gf_RX10_89 rfl dX10_seed_8 sh_0 ?_
    refine g_istore_n (i := 2) (L' := [.ref 0, .int l1, .int (M 0 13)]) dX10_seed_11 rfl (Nat.le_of_ble_eq_true rfl) rfl rfl ?_
    refine g_aload_n (i := 0) dX10_seed_12 rfl rfl ?_
    refine g_iload_n (i := 1) dX10_seed_13 rfl rfl ?_
    refine gp_RX10_89 rfl dX10_seed_14 sh_0 ?_
    refine g_nmM (fun M1 hM1 => ?_); replace h := h M1 hM1
    refine g_iload_n (i := 2) dX10_seed_17 rfl rfl ?_
    exact g_iret dX10_seed_18 rfl h
  · replace h := h.2 hc
    refine g_ldc dX10_seed_4 wt_309 ?_
    exact g_iret dX10_seed_6 rfl h
theorem eX10_seed {κ : gK} {M : MM} {Q : Int32 → MM → Prop} (l1 : Int32)
    (h : G κ mX10_seed 0 [.ref 0, .int l1, .null] [] M Q) : Cl κ mX10_seed [.ref 0, .int l1] M Q := g_entry 1 pl_X10_seed (Nat.le_of_ble_eq_true rfl) (L := [.ref 0, .int l1, .null]) rfl (g_sub _ (sub_c (Or.inr rfl) (sub_c (Or.inr rfl) (sub_c (Or.inr rfl) sub_n))) h)
theorem dX10_keep_0 : decode cX10_keep 0 = .ok (.iload_n 1, 1) := by decide +kernel
theorem dX10_keep_1 : decode cX10_keep 1 = .ok (.ifCond .lt 8, 3) := by decide +kernel
theorem dX10_keep_4 : decode cX10_keep 4 = .ok (.iload_n 1, 1) := by decide +kernel
theorem dX10_keep_5 : decode cX10_keep 5 = .ok (.iconst 2, 1) := by decide +kernel
theorem dX10_keep_6 : decode cX10_keep 6 = .ok (.if_icmp .lt 6, 3) := by decide +kernel
theorem dX10_keep_9 : decode cX10_keep 9 = .ok (.ldc 167, 2) := by decide +kernel
theorem dX10_keep_11 : decode cX10_keep 11 = .ok (.ireturn, 1) := by decide +kernel
theorem dX10_keep_12 : decode cX10_keep 12 = .ok (.aload_n 0, 1) := by decide +kernel
theorem dX10_keep_13 : decode cX10_keep 13 = .ok (.getfield 46, 3) := by decide +kernel
theorem dX10_keep_16 : decode cX10_keep 16 = .ok (.iload_n 1, 1) := by decide +kernel
theorem dX10_keep_17 : decode cX10_keep 17 = .ok (.aload_n 0, 1) := by decide +kernel
theorem dX10_keep_18 : decode cX10_keep 18 = .ok (.getfield 29, 3) := by decide +kernel
theorem dX10_keep_21 : decode cX10_keep 21 = .ok (.aload_n 0, 1) := by decide +kernel
theorem dX10_keep_22 : decode cX10_keep 22 = .ok (.getfield 89, 3) := by decide +kernel
theorem dX10_keep_25 : decode cX10_keep 25 = .ok (.invokevirtual 263, 3) := by decide +kernel
theorem dX10_keep_28 : decode cX10_keep 28 = .ok (.aload_n 0, 1) := by decide +kernel
theorem dX10_keep_29 : decode cX10_keep 29 = .ok (.getfield 39, 3) := by decide +kernel
theorem dX10_keep_32 : decode cX10_keep 32 = .ok (.invokevirtual 115, 3) := by decide +kernel
theorem dX10_keep_35 : decode cX10_keep 35 = .ok (.iconst 1, 1) := by decide +kernel
theorem dX10_keep_36 : decode cX10_keep 36 = .ok (.ireturn, 1) := by decide +kernel
theorem bX10_keep_0 {κ : gK} {M : MM} {Q : Int32 → MM → Prop} (l1 : Int32)
    (h : ((l1 < 0 → G κ mX10_keep 9 [.null, .null] [] M Q) ∧ (¬ l1 < 0 → ((l1 < (2 : Int32) → Cl κ mX2_take [.ref 87, .int l1, .ref 13, .int (M 0 13)] M (fun _ M1 => Cl κ mX4_forget [.ref 21] M1 (fun _ M2 => Q (1 : Int32) M2))) ∧ (¬ l1 < (2 : Int32) → G κ mX10_keep 9 [.null, .null] [] M Q))))) :
    G κ mX10_keep 0 [.ref 0, .int l1] [] M Q := by
  refine g_iload_n (i := 1) dX10_keep_0 rfl rfl ?_
  refine g_if_lt (tgt := 9) dX10_keep_1 rfl ⟨fun hc => ?_, fun hc => ?_⟩
  · replace h := h.1 hc
    exact g_sub _ (sub_c (Or.inl rfl) (sub_c (Or.inl rfl) sub_n)) h
  · replace h := h.2 hc
    refine g_iload_n (i := 1) dX10_keep_4 rfl rfl ?_
    refine g_iconst (v := (2 : Int32)) dX10_keep_5 (by decide) ?_
    refine g_icmp_lt (tgt := 12) dX10_keep_6 rfl ⟨fun hc => ?_, fun hc => ?_⟩
    · replace h := h.1 hc
      refine g_aload_n (i := 0) dX10_keep_12 rfl rfl ?_
      refine gf_RX10_46 rfl dX10_keep_13 sh_0 ?_
      refine g_iload_n (i := 1) dX10_keep_16 rfl rfl ?_
      refine g_aload_n (i := 0) dX10_keep_17 rfl rfl ?_
      refine gf_RX10_29 rfl dX10_keep_18 sh_0 ?_
      refine g_aload_n (i := 0) dX10_keep_21 rfl rfl ?_
      refine gf_RX10_89 rfl dX10_keep_22 sh_0 ?_
      refine gc_RX10_263 rfl (Nat.le_of_ble_eq_true rfl) dX10_keep_25 sh_87 (Nat.le_of_ble_eq_true rfl) ?_
      refine Cl.mono h (fun r1 M1 h => ?_)
      refine g_aload_n (i := 0) dX10_keep_28 rfl rfl ?_
      refine gf_RX10_39 rfl dX10_keep_29 sh_0 ?_
      refine gc_RX10_115 rfl (Nat.le_of_ble_eq_true rfl) dX10_keep_32 sh_21 (Nat.le_of_ble_eq_true rfl) ?_
      refine Cl.mono h (fun r2 M2 h => ?_)
      refine g_iconst (v := (1 : Int32)) dX10_keep_35 (by decide) ?_
      exact g_iret dX10_keep_36 rfl h
    · replace h := h.2 hc
      exact g_sub _ (sub_c (Or.inl rfl) (sub_c (Or.inl rfl) sub_n)) h
theorem bX10_keep_9 {κ : gK} {M : MM} {Q : Int32 → MM → Prop} 
    (h : Q (-1000000001 : Int32) M) :
    G κ mX10_keep 9 [.null, .null] [] M Q := by
  refine g_ldc dX10_keep_9 wt_468 ?_
  exact g_iret dX10_keep_11 rfl h
theorem eX10_keep {κ : gK} {M : MM} {Q : Int32 → MM → Prop} (l1 : Int32)
    (h : G κ mX10_keep 0 [.ref 0, .int l1] [] M Q) : Cl κ mX10_keep [.ref 0, .int l1] M Q := g_entry 0 pl_X10_keep (Nat.le_of_ble_eq_true rfl) (L := [.ref 0, .int l1]) rfl (g_sub _ (sub_c (Or.inr rfl) (sub_c (Or.inr rfl) sub_n)) h)
theorem dX10_goBack_0 : decode cX10_goBack 0 = .ok (.iload_n 1, 1) := by decide +kernel
theorem dX10_goBack_1 : decode cX10_goBack 1 = .ok (.ifCond .lt 8, 3) := by decide +kernel
theorem dX10_goBack_4 : decode cX10_goBack 4 = .ok (.iload_n 1, 1) := by decide +kernel
theorem dX10_goBack_5 : decode cX10_goBack 5 = .ok (.iconst 2, 1) := by decide +kernel
theorem dX10_goBack_6 : decode cX10_goBack 6 = .ok (.if_icmp .lt 6, 3) := by decide +kernel
theorem dX10_goBack_9 : decode cX10_goBack 9 = .ok (.ldc 167, 2) := by decide +kernel
theorem dX10_goBack_11 : decode cX10_goBack 11 = .ok (.ireturn, 1) := by decide +kernel
theorem dX10_goBack_12 : decode cX10_goBack 12 = .ok (.aload_n 0, 1) := by decide +kernel
theorem dX10_goBack_13 : decode cX10_goBack 13 = .ok (.getfield 46, 3) := by decide +kernel
theorem dX10_goBack_16 : decode cX10_goBack 16 = .ok (.getfield 267, 3) := by decide +kernel
theorem dX10_goBack_19 : decode cX10_goBack 19 = .ok (.iload_n 1, 1) := by decide +kernel
theorem dX10_goBack_20 : decode cX10_goBack 20 = .ok (.baload, 1) := by decide +kernel
theorem dX10_goBack_21 : decode cX10_goBack 21 = .ok (.ifCond .ne 6, 3) := by decide +kernel
theorem dX10_goBack_24 : decode cX10_goBack 24 = .ok (.ldc 201, 2) := by decide +kernel
theorem dX10_goBack_26 : decode cX10_goBack 26 = .ok (.ireturn, 1) := by decide +kernel
theorem dX10_goBack_27 : decode cX10_goBack 27 = .ok (.aload_n 0, 1) := by decide +kernel
theorem dX10_goBack_28 : decode cX10_goBack 28 = .ok (.getfield 29, 3) := by decide +kernel
theorem dX10_goBack_31 : decode cX10_goBack 31 = .ok (.aload_n 0, 1) := by decide +kernel
theorem dX10_goBack_32 : decode cX10_goBack 32 = .ok (.getfield 46, 3) := by decide +kernel
theorem dX10_goBack_35 : decode cX10_goBack 35 = .ok (.getfield 271, 3) := by decide +kernel
theorem dX10_goBack_38 : decode cX10_goBack 38 = .ok (.iload_n 1, 1) := by decide +kernel
theorem dX10_goBack_39 : decode cX10_goBack 39 = .ok (.aaload, 1) := by decide +kernel
theorem dX10_goBack_40 : decode cX10_goBack 40 = .ok (.invokevirtual 212, 3) := by decide +kernel
theorem dX10_goBack_43 : decode cX10_goBack 43 = .ok (.aload_n 0, 1) := by decide +kernel
theorem dX10_goBack_44 : decode cX10_goBack 44 = .ok (.aload_n 0, 1) := by decide +kernel
theorem dX10_goBack_45 : decode cX10_goBack 45 = .ok (.getfield 46, 3) := by decide +kernel
theorem dX10_goBack_48 : decode cX10_goBack 48 = .ok (.getfield 275, 3) := by decide +kernel
theorem dX10_goBack_51 : decode cX10_goBack 51 = .ok (.iload_n 1, 1) := by decide +kernel
theorem dX10_goBack_52 : decode cX10_goBack 52 = .ok (.iaload, 1) := by decide +kernel
theorem dX10_goBack_53 : decode cX10_goBack 53 = .ok (.putfield 89, 3) := by decide +kernel
theorem dX10_goBack_56 : decode cX10_goBack 56 = .ok (.aload_n 0, 1) := by decide +kernel
theorem dX10_goBack_57 : decode cX10_goBack 57 = .ok (.getfield 39, 3) := by decide +kernel
theorem dX10_goBack_60 : decode cX10_goBack 60 = .ok (.invokevirtual 115, 3) := by decide +kernel
theorem dX10_goBack_63 : decode cX10_goBack 63 = .ok (.iconst 1, 1) := by decide +kernel
theorem dX10_goBack_64 : decode cX10_goBack 64 = .ok (.ireturn, 1) := by decide +kernel
theorem bX10_goBack_0 {κ : gK} {M : MM} {Q : Int32 → MM → Prop} (l1 : Int32)
    (h : ((l1 < 0 → G κ mX10_goBack 9 [.null, .null] [] M Q) ∧ (¬ l1 < 0 → ((l1 < (2 : Int32) → (vp_in l1 2) ∧ ((((M 90 (l1).toNatClampNeg) = 0 → Q (-1000000003 : Int32) M) ∧ (¬ (M 90 (l1).toNatClampNeg) = 0 → Cl κ mX8_copyFrom [.ref 13, .ref (91 + 4 * (l1).toNatClampNeg)] M (fun _ M1 => ∀ M2 : MM, M2 = (pt M1 0 13 (M1 89 (l1).toNatClampNeg)) → (Cl κ mX4_forget [.ref 21] M2 (fun _ M3 => Q (1 : Int32) M3))))))) ∧ (¬ l1 < (2 : Int32) → G κ mX10_goBack 9 [.null, .null] [] M Q))))) :
    G κ mX10_goBack 0 [.ref 0, .int l1] [] M Q := by
  refine g_iload_n (i := 1) dX10_goBack_0 rfl rfl ?_
  refine g_if_lt (tgt := 9) dX10_goBack_1 rfl ⟨fun hc => ?_, fun hc => ?_⟩
  · replace h := h.1 hc
    exact g_sub _ (sub_c (Or.inl rfl) (sub_c (Or.inl rfl) sub_n)) h
  · replace h := h.2 hc
    refine g_iload_n (i := 1) dX10_goBack_4 rfl rfl ?_
    refine g_iconst (v := (2 : Int32)) dX10_goBack_5 (by decide) ?_
    refine g_icmp_lt (tgt := 12) dX10_goBack_6 rfl ⟨fun hc => ?_, fun hc => ?_⟩
    · replace h := h.1 hc
      refine g_aload_n (i := 0) dX10_goBack_12 rfl rfl ?_
      refine gf_RX10_46 rfl dX10_goBack_13 sh_0 ?_
      refine gf_RX10_267 rfl dX10_goBack_16 sh_87 ?_
      refine g_iload_n (i := 1) dX10_goBack_19 rfl rfl ?_
      have hv1 := h.1; replace h := h.2
      refine g_zald dX10_goBack_20 sh_90 hv1 ?_
      refine g_if_ne (tgt := 27) dX10_goBack_21 rfl ⟨fun hc => ?_, fun hc => ?_⟩
      · replace h := h.1 hc
        refine g_ldc dX10_goBack_24 wt_487 ?_
        exact g_iret dX10_goBack_26 rfl h
      · replace h := h.2 hc
        refine g_aload_n (i := 0) dX10_goBack_27 rfl rfl ?_
        refine gf_RX10_29 rfl dX10_goBack_28 sh_0 ?_
        refine g_aload_n (i := 0) dX10_goBack_31 rfl rfl ?_
        refine gf_RX10_46 rfl dX10_goBack_32 sh_0 ?_
        refine gf_RX10_271 rfl dX10_goBack_35 sh_87 ?_
        refine g_iload_n (i := 1) dX10_goBack_38 rfl rfl ?_
        refine g_aald (d := (91 + 4 * (l1).toNatClampNeg)) dX10_goBack_39 sh_88 hv1 rfl ?_
        refine gc_RX10_212 rfl (Nat.le_of_ble_eq_true rfl) dX10_goBack_40 sh_13 (Nat.le_of_ble_eq_true rfl) ?_
        refine Cl.mono h (fun r1 M1 h => ?_)
        refine g_aload_n (i := 0) dX10_goBack_43 rfl rfl ?_
        refine g_aload_n (i := 0) dX10_goBack_44 rfl rfl ?_
        refine gf_RX10_46 rfl dX10_goBack_45 sh_0 ?_
        refine gf_RX10_275 rfl dX10_goBack_48 sh_87 ?_
        refine g_iload_n (i := 1) dX10_goBack_51 rfl rfl ?_
        refine g_iald dX10_goBack_52 sh_89 hv1 ?_
        refine gp_RX10_89 rfl dX10_goBack_53 sh_0 ?_
        refine g_nmM (fun M2 hM2 => ?_); replace h := h M2 hM2
        refine g_aload_n (i := 0) dX10_goBack_56 rfl rfl ?_
        refine gf_RX10_39 rfl dX10_goBack_57 sh_0 ?_
        refine gc_RX10_115 rfl (Nat.le_of_ble_eq_true rfl) dX10_goBack_60 sh_21 (Nat.le_of_ble_eq_true rfl) ?_
        refine Cl.mono h (fun r3 M3 h => ?_)
        refine g_iconst (v := (1 : Int32)) dX10_goBack_63 (by decide) ?_
        exact g_iret dX10_goBack_64 rfl h
    · replace h := h.2 hc
      exact g_sub _ (sub_c (Or.inl rfl) (sub_c (Or.inl rfl) sub_n)) h
theorem bX10_goBack_9 {κ : gK} {M : MM} {Q : Int32 → MM → Prop} 
    (h : Q (-1000000001 : Int32) M) :
    G κ mX10_goBack 9 [.null, .null] [] M Q := by
  refine g_ldc dX10_goBack_9 wt_468 ?_
  exact g_iret dX10_goBack_11 rfl h
theorem eX10_goBack {κ : gK} {M : MM} {Q : Int32 → MM → Prop} (l1 : Int32)
    (h : G κ mX10_goBack 0 [.ref 0, .int l1] [] M Q) : Cl κ mX10_goBack [.ref 0, .int l1] M Q := g_entry 0 pl_X10_goBack (Nat.le_of_ble_eq_true rfl) (L := [.ref 0, .int l1]) rfl (g_sub _ (sub_c (Or.inr rfl) (sub_c (Or.inr rfl) sub_n)) h)
theorem dX10_refusalOfDawns_0 : decode cX10_refusalOfDawns 0 = .ok (.iload_n 1, 1) := by decide +kernel
theorem dX10_refusalOfDawns_1 : decode cX10_refusalOfDawns 1 = .ok (.iconst 1, 1) := by decide +kernel
theorem dX10_refusalOfDawns_2 : decode cX10_refusalOfDawns 2 = .ok (.if_icmp .lt 9, 3) := by decide +kernel
theorem dX10_refusalOfDawns_5 : decode cX10_refusalOfDawns 5 = .ok (.iload_n 1, 1) := by decide +kernel
theorem dX10_refusalOfDawns_6 : decode cX10_refusalOfDawns 6 = .ok (.bipush 60, 2) := by decide +kernel
theorem dX10_refusalOfDawns_8 : decode cX10_refusalOfDawns 8 = .ok (.if_icmp .le 6, 3) := by decide +kernel
theorem dX10_refusalOfDawns_11 : decode cX10_refusalOfDawns 11 = .ok (.ldc 92, 2) := by decide +kernel
theorem dX10_refusalOfDawns_13 : decode cX10_refusalOfDawns 13 = .ok (.ireturn, 1) := by decide +kernel
theorem dX10_refusalOfDawns_14 : decode cX10_refusalOfDawns 14 = .ok (.aload_n 0, 1) := by decide +kernel
theorem dX10_refusalOfDawns_15 : decode cX10_refusalOfDawns 15 = .ok (.getfield 12, 3) := by decide +kernel
theorem dX10_refusalOfDawns_18 : decode cX10_refusalOfDawns 18 = .ok (.invokevirtual 197, 3) := by decide +kernel
theorem dX10_refusalOfDawns_21 : decode cX10_refusalOfDawns 21 = .ok (.ifCond .ne 6, 3) := by decide +kernel
theorem dX10_refusalOfDawns_24 : decode cX10_refusalOfDawns 24 = .ok (.ldc 201, 2) := by decide +kernel
theorem dX10_refusalOfDawns_26 : decode cX10_refusalOfDawns 26 = .ok (.ireturn, 1) := by decide +kernel
theorem dX10_refusalOfDawns_27 : decode cX10_refusalOfDawns 27 = .ok (.aload_n 0, 1) := by decide +kernel
theorem dX10_refusalOfDawns_28 : decode cX10_refusalOfDawns 28 = .ok (.getfield 29, 3) := by decide +kernel
theorem dX10_refusalOfDawns_31 : decode cX10_refusalOfDawns 31 = .ok (.getfield 132, 3) := by decide +kernel
theorem dX10_refusalOfDawns_34 : decode cX10_refusalOfDawns 34 = .ok (.sipush 9000, 3) := by decide +kernel
theorem dX10_refusalOfDawns_37 : decode cX10_refusalOfDawns 37 = .ok (.if_icmp .le 8, 3) := by decide +kernel
theorem dX10_refusalOfDawns_40 : decode cX10_refusalOfDawns 40 = .ok (.ldc 96, 2) := by decide +kernel
theorem dX10_refusalOfDawns_42 : decode cX10_refusalOfDawns 42 = .ok (.goto 4, 3) := by decide +kernel
theorem dX10_refusalOfDawns_45 : decode cX10_refusalOfDawns 45 = .ok (.iconst 0, 1) := by decide +kernel
theorem dX10_refusalOfDawns_46 : decode cX10_refusalOfDawns 46 = .ok (.ireturn, 1) := by decide +kernel
theorem bX10_refusalOfDawns_0 {κ : gK} {M : MM} {Q : Int32 → MM → Prop} (l1 : Int32)
    (h : ((l1 < (1 : Int32) → G κ mX10_refusalOfDawns 11 [.null, .null] [] M Q) ∧ (¬ l1 < (1 : Int32) → ((l1 ≤ (60 : Int32) → Cl κ mX9_isThere [.ref 1] M (fun r1 M1 => ((r1 = 0 → Q (-1000000003 : Int32) M1) ∧ (¬ r1 = 0 → (((M1 13 3) ≤ (9000 : Int32) → G κ mX10_refusalOfDawns 46 [.null, .null] [.int (0 : Int32)] M1 Q) ∧ (¬ (M1 13 3) ≤ (9000 : Int32) → G κ mX10_refusalOfDawns 46 [.null, .null] [.int (-1000000004 : Int32)] M1 Q)))))) ∧ (¬ l1 ≤ (60 : Int32) → G κ mX10_refusalOfDawns 11 [.null, .null] [] M Q))))) :
    G κ mX10_refusalOfDawns 0 [.ref 0, .int l1] [] M Q := by
  refine g_iload_n (i := 1) dX10_refusalOfDawns_0 rfl rfl ?_
  refine g_iconst (v := (1 : Int32)) dX10_refusalOfDawns_1 (by decide) ?_
  refine g_icmp_lt (tgt := 11) dX10_refusalOfDawns_2 rfl ⟨fun hc => ?_, fun hc => ?_⟩
  · replace h := h.1 hc
    exact g_sub _ (sub_c (Or.inl rfl) (sub_c (Or.inl rfl) sub_n)) h
  · replace h := h.2 hc
    refine g_iload_n (i := 1) dX10_refusalOfDawns_5 rfl rfl ?_
    refine g_bipush (v := (60 : Int32)) dX10_refusalOfDawns_6 (by decide) ?_
    refine g_icmp_le (tgt := 14) dX10_refusalOfDawns_8 rfl ⟨fun hc => ?_, fun hc => ?_⟩
    · replace h := h.1 hc
      refine g_aload_n (i := 0) dX10_refusalOfDawns_14 rfl rfl ?_
      refine gf_RX10_12 rfl dX10_refusalOfDawns_15 sh_0 ?_
      refine gc_RX10_197 rfl (Nat.le_of_ble_eq_true rfl) dX10_refusalOfDawns_18 sh_1 (Nat.le_of_ble_eq_true rfl) ?_
      refine Cl.mono h (fun r1 M1 h => ?_)
      refine g_if_ne (tgt := 27) dX10_refusalOfDawns_21 rfl ⟨fun hc => ?_, fun hc => ?_⟩
      · replace h := h.1 hc
        refine g_ldc dX10_refusalOfDawns_24 wt_487 ?_
        exact g_iret dX10_refusalOfDawns_26 rfl h
      · replace h := h.2 hc
        refine g_aload_n (i := 0) dX10_refusalOfDawns_27 rfl rfl ?_
        refine gf_RX10_29 rfl dX10_refusalOfDawns_28 sh_0 ?_
        refine gf_RX10_132 rfl dX10_refusalOfDawns_31 sh_13 ?_
        refine g_sipush (v := (9000 : Int32)) dX10_refusalOfDawns_34 (by decide) ?_
        refine g_icmp_le (tgt := 45) dX10_refusalOfDawns_37 rfl ⟨fun hc => ?_, fun hc => ?_⟩
        · replace h := h.1 hc
          refine g_iconst (v := (0 : Int32)) dX10_refusalOfDawns_45 (by decide) ?_
          exact g_sub _ (sub_c (Or.inl rfl) (sub_c (Or.inl rfl) sub_n)) h
        · replace h := h.2 hc
          refine g_ldc dX10_refusalOfDawns_40 wt_310 ?_
          refine g_goto (tgt := 46) dX10_refusalOfDawns_42 rfl ?_
          exact g_sub _ (sub_c (Or.inl rfl) (sub_c (Or.inl rfl) sub_n)) h
    · replace h := h.2 hc
      exact g_sub _ (sub_c (Or.inl rfl) (sub_c (Or.inl rfl) sub_n)) h
theorem bX10_refusalOfDawns_11 {κ : gK} {M : MM} {Q : Int32 → MM → Prop} 
    (h : Q (-1000000002 : Int32) M) :
    G κ mX10_refusalOfDawns 11 [.null, .null] [] M Q := by
  refine g_ldc dX10_refusalOfDawns_11 wt_309 ?_
  exact g_iret dX10_refusalOfDawns_13 rfl h
theorem bX10_refusalOfDawns_46 {κ : gK} {M : MM} {Q : Int32 → MM → Prop} (s0 : Int32)
    (h : Q s0 M) :
    G κ mX10_refusalOfDawns 46 [.null, .null] [.int s0] M Q := by
  exact g_iret dX10_refusalOfDawns_46 rfl h
theorem eX10_refusalOfDawns {κ : gK} {M : MM} {Q : Int32 → MM → Prop} (l1 : Int32)
    (h : G κ mX10_refusalOfDawns 0 [.ref 0, .int l1] [] M Q) : Cl κ mX10_refusalOfDawns [.ref 0, .int l1] M Q := g_entry 0 pl_X10_refusalOfDawns (Nat.le_of_ble_eq_true rfl) (L := [.ref 0, .int l1]) rfl (g_sub _ (sub_c (Or.inr rfl) (sub_c (Or.inr rfl) sub_n)) h)
theorem dX10_tearAll_0 : decode cX10_tearAll 0 = .ok (.aload_n 0, 1) := by decide +kernel
theorem dX10_tearAll_1 : decode cX10_tearAll 1 = .ok (.getfield 67, 3) := by decide +kernel
theorem dX10_tearAll_4 : decode cX10_tearAll 4 = .ok (.getfield 154, 3) := by decide +kernel
theorem dX10_tearAll_7 : decode cX10_tearAll 7 = .ok (.aload_n 0, 1) := by decide +kernel
theorem dX10_tearAll_8 : decode cX10_tearAll 8 = .ok (.getfield 74, 3) := by decide +kernel
theorem dX10_tearAll_11 : decode cX10_tearAll 11 = .ok (.getfield 157, 3) := by decide +kernel
theorem dX10_tearAll_14 : decode cX10_tearAll 14 = .ok (.iadd, 1) := by decide +kernel
theorem dX10_tearAll_15 : decode cX10_tearAll 15 = .ok (.aload_n 0, 1) := by decide +kernel
theorem dX10_tearAll_16 : decode cX10_tearAll 16 = .ok (.getfield 81, 3) := by decide +kernel
theorem dX10_tearAll_19 : decode cX10_tearAll 19 = .ok (.getfield 161, 3) := by decide +kernel
theorem dX10_tearAll_22 : decode cX10_tearAll 22 = .ok (.iadd, 1) := by decide +kernel
theorem dX10_tearAll_23 : decode cX10_tearAll 23 = .ok (.istore_n 1, 1) := by decide +kernel
theorem dX10_tearAll_24 : decode cX10_tearAll 24 = .ok (.aload_n 0, 1) := by decide +kernel
theorem dX10_tearAll_25 : decode cX10_tearAll 25 = .ok (.getfield 67, 3) := by decide +kernel
theorem dX10_tearAll_28 : decode cX10_tearAll 28 = .ok (.iconst 0, 1) := by decide +kernel
theorem dX10_tearAll_29 : decode cX10_tearAll 29 = .ok (.putfield 154, 3) := by decide +kernel
theorem dX10_tearAll_32 : decode cX10_tearAll 32 = .ok (.aload_n 0, 1) := by decide +kernel
theorem dX10_tearAll_33 : decode cX10_tearAll 33 = .ok (.getfield 74, 3) := by decide +kernel
theorem dX10_tearAll_36 : decode cX10_tearAll 36 = .ok (.iconst 0, 1) := by decide +kernel
theorem dX10_tearAll_37 : decode cX10_tearAll 37 = .ok (.putfield 157, 3) := by decide +kernel
theorem dX10_tearAll_40 : decode cX10_tearAll 40 = .ok (.aload_n 0, 1) := by decide +kernel
theorem dX10_tearAll_41 : decode cX10_tearAll 41 = .ok (.getfield 81, 3) := by decide +kernel
theorem dX10_tearAll_44 : decode cX10_tearAll 44 = .ok (.iconst 0, 1) := by decide +kernel
theorem dX10_tearAll_45 : decode cX10_tearAll 45 = .ok (.putfield 161, 3) := by decide +kernel
theorem dX10_tearAll_48 : decode cX10_tearAll 48 = .ok (.iload_n 1, 1) := by decide +kernel
theorem dX10_tearAll_49 : decode cX10_tearAll 49 = .ok (.ireturn, 1) := by decide +kernel
theorem bX10_tearAll_0 {κ : gK} {M : MM} {Q : Int32 → MM → Prop} 
    (h : ∀ v1 : Int32, v1 = (((M 105 3) + (M 109 5)) + (M 115 3)) → (∀ M2 : MM, M2 = (pt M 105 3 (0 : Int32)) → (∀ M3 : MM, M3 = (pt M2 109 5 (0 : Int32)) → (∀ M4 : MM, M4 = (pt M3 115 3 (0 : Int32)) → (Q v1 M4))))) :
    G κ mX10_tearAll 0 [.ref 0, .null] [] M Q := by
  refine g_aload_n (i := 0) dX10_tearAll_0 rfl rfl ?_
  refine gf_RX10_67 rfl dX10_tearAll_1 sh_0 ?_
  refine gf_RX10_154 rfl dX10_tearAll_4 sh_105 ?_
  refine g_aload_n (i := 0) dX10_tearAll_7 rfl rfl ?_
  refine gf_RX10_74 rfl dX10_tearAll_8 sh_0 ?_
  refine gf_RX10_157 rfl dX10_tearAll_11 sh_109 ?_
  refine g_iadd dX10_tearAll_14 ?_
  refine g_aload_n (i := 0) dX10_tearAll_15 rfl rfl ?_
  refine gf_RX10_81 rfl dX10_tearAll_16 sh_0 ?_
  refine gf_RX10_161 rfl dX10_tearAll_19 sh_115 ?_
  refine g_iadd dX10_tearAll_22 ?_
  refine lv_nm (fun v1 hn1 => ?_) (x := (((M 105 3) + (M 109 5)) + (M 115 3)))
  replace h := h v1 hn1
  refine g_istore_n (i := 1) (L' := [.ref 0, .int v1]) dX10_tearAll_23 rfl (Nat.le_of_ble_eq_true rfl) rfl rfl ?_
  refine g_aload_n (i := 0) dX10_tearAll_24 rfl rfl ?_
  refine gf_RX10_67 rfl dX10_tearAll_25 sh_0 ?_
  refine g_iconst (v := (0 : Int32)) dX10_tearAll_28 (by decide) ?_
  refine gp_RX10_154 rfl dX10_tearAll_29 sh_105 ?_
  refine g_nmM (fun M2 hM2 => ?_); replace h := h M2 hM2
  refine g_aload_n (i := 0) dX10_tearAll_32 rfl rfl ?_
  refine gf_RX10_74 rfl dX10_tearAll_33 sh_0 ?_
  refine g_iconst (v := (0 : Int32)) dX10_tearAll_36 (by decide) ?_
  refine gp_RX10_157 rfl dX10_tearAll_37 sh_109 ?_
  refine g_nmM (fun M3 hM3 => ?_); replace h := h M3 hM3
  refine g_aload_n (i := 0) dX10_tearAll_40 rfl rfl ?_
  refine gf_RX10_81 rfl dX10_tearAll_41 sh_0 ?_
  refine g_iconst (v := (0 : Int32)) dX10_tearAll_44 (by decide) ?_
  refine gp_RX10_161 rfl dX10_tearAll_45 sh_115 ?_
  refine g_nmM (fun M4 hM4 => ?_); replace h := h M4 hM4
  refine g_iload_n (i := 1) dX10_tearAll_48 rfl rfl ?_
  exact g_iret dX10_tearAll_49 rfl h
theorem eX10_tearAll {κ : gK} {M : MM} {Q : Int32 → MM → Prop} 
    (h : G κ mX10_tearAll 0 [.ref 0, .null] [] M Q) : Cl κ mX10_tearAll [.ref 0] M Q := g_entry 1 pl_X10_tearAll (Nat.le_of_ble_eq_true rfl) (L := [.ref 0, .null]) rfl (g_sub _ (sub_c (Or.inr rfl) (sub_c (Or.inr rfl) sub_n)) h)
theorem dX10_draw_0 : decode cX10_draw 0 = .ok (.iload_n 1, 1) := by decide +kernel
theorem dX10_draw_1 : decode cX10_draw 1 = .ok (.ifCond .gt 5, 3) := by decide +kernel
theorem dX10_draw_4 : decode cX10_draw 4 = .ok (.iconst 0, 1) := by decide +kernel
theorem dX10_draw_5 : decode cX10_draw 5 = .ok (.ireturn, 1) := by decide +kernel
theorem dX10_draw_6 : decode cX10_draw 6 = .ok (.aload_n 0, 1) := by decide +kernel
theorem dX10_draw_7 : decode cX10_draw 7 = .ok (.aload_n 0, 1) := by decide +kernel
theorem dX10_draw_8 : decode cX10_draw 8 = .ok (.getfield 89, 3) := by decide +kernel
theorem dX10_draw_11 : decode cX10_draw 11 = .ok (.ldc_w 278, 3) := by decide +kernel
theorem dX10_draw_14 : decode cX10_draw 14 = .ok (.imul, 1) := by decide +kernel
theorem dX10_draw_15 : decode cX10_draw 15 = .ok (.sipush 12345, 3) := by decide +kernel
theorem dX10_draw_18 : decode cX10_draw 18 = .ok (.iadd, 1) := by decide +kernel
theorem dX10_draw_19 : decode cX10_draw 19 = .ok (.ldc_w 279, 3) := by decide +kernel
theorem dX10_draw_22 : decode cX10_draw 22 = .ok (.iand, 1) := by decide +kernel
theorem dX10_draw_23 : decode cX10_draw 23 = .ok (.putfield 89, 3) := by decide +kernel
theorem dX10_draw_26 : decode cX10_draw 26 = .ok (.aload_n 0, 1) := by decide +kernel
theorem dX10_draw_27 : decode cX10_draw 27 = .ok (.getfield 89, 3) := by decide +kernel
theorem dX10_draw_30 : decode cX10_draw 30 = .ok (.ldc_w 280, 3) := by decide +kernel
theorem dX10_draw_33 : decode cX10_draw 33 = .ok (.idiv, 1) := by decide +kernel
theorem dX10_draw_34 : decode cX10_draw 34 = .ok (.iload_n 1, 1) := by decide +kernel
theorem dX10_draw_35 : decode cX10_draw 35 = .ok (.irem, 1) := by decide +kernel
theorem dX10_draw_36 : decode cX10_draw 36 = .ok (.ireturn, 1) := by decide +kernel
theorem bX10_draw_0 {κ : gK} {M : MM} {Q : Int32 → MM → Prop} (l1 : Int32)
    (h : ((0 < l1 → ∀ M1 : MM, M1 = (pt M 0 13 ((((M 0 13) * (1103515245 : Int32)) + (12345 : Int32)) &&& (2147483647 : Int32))) → ((¬ l1 = 0) ∧ (Q (irm ((M1 0 13) / (65536 : Int32)) l1) M1))) ∧ (¬ 0 < l1 → Q (0 : Int32) M))) :
    G κ mX10_draw 0 [.ref 0, .int l1] [] M Q := by
  refine g_iload_n (i := 1) dX10_draw_0 rfl rfl ?_
  refine g_if_gt (tgt := 6) dX10_draw_1 rfl ⟨fun hc => ?_, fun hc => ?_⟩
  · replace h := h.1 hc
    refine g_aload_n (i := 0) dX10_draw_6 rfl rfl ?_
    refine g_aload_n (i := 0) dX10_draw_7 rfl rfl ?_
    refine gf_RX10_89 rfl dX10_draw_8 sh_0 ?_
    refine g_ldcw dX10_draw_11 wt_555 ?_
    refine g_imul dX10_draw_14 ?_
    refine g_sipush (v := (12345 : Int32)) dX10_draw_15 (by decide) ?_
    refine g_iadd dX10_draw_18 ?_
    refine g_ldcw dX10_draw_19 wt_556 ?_
    refine g_iand dX10_draw_22 ?_
    refine gp_RX10_89 rfl dX10_draw_23 sh_0 ?_
    refine g_nmM (fun M1 hM1 => ?_); replace h := h M1 hM1
    refine g_aload_n (i := 0) dX10_draw_26 rfl rfl ?_
    refine gf_RX10_89 rfl dX10_draw_27 sh_0 ?_
    refine g_ldcw dX10_draw_30 wt_557 ?_
    refine g_idiv dX10_draw_33 (by decide) ?_
    refine g_iload_n (i := 1) dX10_draw_34 rfl rfl ?_
    have hv1 := h.1; replace h := h.2
    refine g_irem dX10_draw_35 hv1 ?_
    exact g_iret dX10_draw_36 rfl h
  · replace h := h.2 hc
    refine g_iconst (v := (0 : Int32)) dX10_draw_4 (by decide) ?_
    exact g_iret dX10_draw_5 rfl h
theorem eX10_draw {κ : gK} {M : MM} {Q : Int32 → MM → Prop} (l1 : Int32)
    (h : G κ mX10_draw 0 [.ref 0, .int l1] [] M Q) : Cl κ mX10_draw [.ref 0, .int l1] M Q := g_entry 0 pl_X10_draw (Nat.le_of_ble_eq_true rfl) (L := [.ref 0, .int l1]) rfl (g_sub _ (sub_c (Or.inr rfl) (sub_c (Or.inr rfl) sub_n)) h)
theorem dX10_doByDraws_0 : decode cX10_doByDraws 0 = .ok (.aload_n 0, 1) := by decide +kernel
theorem dX10_doByDraws_1 : decode cX10_doByDraws 1 = .ok (.iconst 5, 1) := by decide +kernel
theorem dX10_doByDraws_2 : decode cX10_doByDraws 2 = .ok (.invokevirtual 281, 3) := by decide +kernel
theorem dX10_doByDraws_5 : decode cX10_doByDraws 5 = .ok (.istore_n 1, 1) := by decide +kernel
theorem dX10_doByDraws_6 : decode cX10_doByDraws 6 = .ok (.aload_n 0, 1) := by decide +kernel
theorem dX10_doByDraws_7 : decode cX10_doByDraws 7 = .ok (.aload_n 0, 1) := by decide +kernel
theorem dX10_doByDraws_8 : decode cX10_doByDraws 8 = .ok (.getfield 12, 3) := by decide +kernel
theorem dX10_doByDraws_11 : decode cX10_doByDraws 11 = .ok (.getfield 123, 3) := by decide +kernel
theorem dX10_doByDraws_14 : decode cX10_doByDraws 14 = .ok (.invokevirtual 281, 3) := by decide +kernel
theorem dX10_doByDraws_17 : decode cX10_doByDraws 17 = .ok (.istore_n 2, 1) := by decide +kernel
theorem dX10_doByDraws_18 : decode cX10_doByDraws 18 = .ok (.iload_n 1, 1) := by decide +kernel
theorem dX10_doByDraws_19 : decode cX10_doByDraws 19 = .ok (.tableswitch 119 0 3 #[29, 54, 72, 96], 29) := by decide +kernel
theorem dX10_doByDraws_48 : decode cX10_doByDraws 48 = .ok (.aload_n 0, 1) := by decide +kernel
theorem dX10_doByDraws_49 : decode cX10_doByDraws 49 = .ok (.getfield 29, 3) := by decide +kernel
theorem dX10_doByDraws_52 : decode cX10_doByDraws 52 = .ok (.getfield 172, 3) := by decide +kernel
theorem dX10_doByDraws_55 : decode cX10_doByDraws 55 = .ok (.iload_n 2, 1) := by decide +kernel
theorem dX10_doByDraws_56 : decode cX10_doByDraws 56 = .ok (.iconst 1, 1) := by decide +kernel
theorem dX10_doByDraws_57 : decode cX10_doByDraws 57 = .ok (.aload_n 0, 1) := by decide +kernel
theorem dX10_doByDraws_58 : decode cX10_doByDraws 58 = .ok (.aload_n 0, 1) := by decide +kernel
theorem dX10_doByDraws_59 : decode cX10_doByDraws 59 = .ok (.getfield 12, 3) := by decide +kernel
theorem dX10_doByDraws_62 : decode cX10_doByDraws 62 = .ok (.getfield 126, 3) := by decide +kernel
theorem dX10_doByDraws_65 : decode cX10_doByDraws 65 = .ok (.invokevirtual 281, 3) := by decide +kernel
theorem dX10_doByDraws_68 : decode cX10_doByDraws 68 = .ok (.ishl, 1) := by decide +kernel
theorem dX10_doByDraws_69 : decode cX10_doByDraws 69 = .ok (.iastore, 1) := by decide +kernel
theorem dX10_doByDraws_70 : decode cX10_doByDraws 70 = .ok (.goto 68, 3) := by decide +kernel
theorem dX10_doByDraws_73 : decode cX10_doByDraws 73 = .ok (.aload_n 0, 1) := by decide +kernel
theorem dX10_doByDraws_74 : decode cX10_doByDraws 74 = .ok (.getfield 29, 3) := by decide +kernel
theorem dX10_doByDraws_77 : decode cX10_doByDraws 77 = .ok (.getfield 175, 3) := by decide +kernel
theorem dX10_doByDraws_80 : decode cX10_doByDraws 80 = .ok (.iload_n 2, 1) := by decide +kernel
theorem dX10_doByDraws_81 : decode cX10_doByDraws 81 = .ok (.aload_n 0, 1) := by decide +kernel
theorem dX10_doByDraws_82 : decode cX10_doByDraws 82 = .ok (.bipush 10, 2) := by decide +kernel
theorem dX10_doByDraws_84 : decode cX10_doByDraws 84 = .ok (.invokevirtual 281, 3) := by decide +kernel
theorem dX10_doByDraws_87 : decode cX10_doByDraws 87 = .ok (.iastore, 1) := by decide +kernel
theorem dX10_doByDraws_88 : decode cX10_doByDraws 88 = .ok (.goto 50, 3) := by decide +kernel
theorem dX10_doByDraws_91 : decode cX10_doByDraws 91 = .ok (.aload_n 0, 1) := by decide +kernel
theorem dX10_doByDraws_92 : decode cX10_doByDraws 92 = .ok (.getfield 29, 3) := by decide +kernel
theorem dX10_doByDraws_95 : decode cX10_doByDraws 95 = .ok (.dup, 1) := by decide +kernel
theorem dX10_doByDraws_96 : decode cX10_doByDraws 96 = .ok (.getfield 138, 3) := by decide +kernel
theorem dX10_doByDraws_99 : decode cX10_doByDraws 99 = .ok (.aload_n 0, 1) := by decide +kernel
theorem dX10_doByDraws_100 : decode cX10_doByDraws 100 = .ok (.getfield 29, 3) := by decide +kernel
theorem dX10_doByDraws_103 : decode cX10_doByDraws 103 = .ok (.getfield 172, 3) := by decide +kernel
theorem dX10_doByDraws_106 : decode cX10_doByDraws 106 = .ok (.iload_n 2, 1) := by decide +kernel
theorem dX10_doByDraws_107 : decode cX10_doByDraws 107 = .ok (.iaload, 1) := by decide +kernel
theorem dX10_doByDraws_108 : decode cX10_doByDraws 108 = .ok (.ior, 1) := by decide +kernel
theorem dX10_doByDraws_109 : decode cX10_doByDraws 109 = .ok (.putfield 138, 3) := by decide +kernel
theorem dX10_doByDraws_112 : decode cX10_doByDraws 112 = .ok (.goto 26, 3) := by decide +kernel
theorem dX10_doByDraws_115 : decode cX10_doByDraws 115 = .ok (.aload_n 0, 1) := by decide +kernel
theorem dX10_doByDraws_116 : decode cX10_doByDraws 116 = .ok (.getfield 29, 3) := by decide +kernel
theorem dX10_doByDraws_119 : decode cX10_doByDraws 119 = .ok (.aload_n 0, 1) := by decide +kernel
theorem dX10_doByDraws_120 : decode cX10_doByDraws 120 = .ok (.getfield 12, 3) := by decide +kernel
theorem dX10_doByDraws_123 : decode cX10_doByDraws 123 = .ok (.iconst 1, 1) := by decide +kernel
theorem dX10_doByDraws_124 : decode cX10_doByDraws 124 = .ok (.aload_n 0, 1) := by decide +kernel
theorem dX10_doByDraws_125 : decode cX10_doByDraws 125 = .ok (.bipush 9, 2) := by decide +kernel
theorem dX10_doByDraws_127 : decode cX10_doByDraws 127 = .ok (.invokevirtual 281, 3) := by decide +kernel
theorem dX10_doByDraws_130 : decode cX10_doByDraws 130 = .ok (.iadd, 1) := by decide +kernel
theorem dX10_doByDraws_131 : decode cX10_doByDraws 131 = .ok (.invokevirtual 202, 3) := by decide +kernel
theorem dX10_doByDraws_134 : decode cX10_doByDraws 134 = .ok (.pop, 1) := by decide +kernel
theorem dX10_doByDraws_135 : decode cX10_doByDraws 135 = .ok (.goto 3, 3) := by decide +kernel
theorem dX10_doByDraws_138 : decode cX10_doByDraws 138 = .ok (.return_, 1) := by decide +kernel
theorem bX10_doByDraws_0 {κ : gK} {M : MM} {Q : Int32 → MM → Prop} 
    (h : Cl κ mX10_draw [.ref 0, .int (5 : Int32)] M (fun r1 M1 => Cl κ mX10_draw [.ref 0, .int (M1 1 6)] M1 (fun r2 M2 => ((r1 = (0 : Int32) → Cl κ mX10_draw [.ref 0, .int (M2 1 4)] M2 (fun r3 M3 => (vp_in r2 8) ∧ (∀ M4 : MM, M4 = (pt M3 14 (r2).toNatClampNeg (jshl (1 : Int32) r3)) → (G κ mX10_doByDraws 138 [.null, .null, .null] [] M4 Q)))) ∧ (r1 = (1 : Int32) → Cl κ mX10_draw [.ref 0, .int (10 : Int32)] M2 (fun r5 M5 => (vp_in r2 8) ∧ (∀ M6 : MM, M6 = (pt M5 15 (r2).toNatClampNeg r5) → (G κ mX10_doByDraws 138 [.null, .null, .null] [] M6 Q)))) ∧ (r1 = (2 : Int32) → (vp_in r2 8) ∧ (∀ M7 : MM, M7 = (pt M2 13 4 ((M2 13 4) ||| (M2 14 (r2).toNatClampNeg))) → (G κ mX10_doByDraws 138 [.null, .null, .null] [] M7 Q))) ∧ (r1 = (3 : Int32) → Cl κ mX10_draw [.ref 0, .int (9 : Int32)] M2 (fun r8 M8 => Cl κ mX8_hearCrow [.ref 13, .ref 1, .int ((1 : Int32) + r8)] M8 (fun r9 M9 => G κ mX10_doByDraws 138 [.null, .null, .null] [] M9 Q))) ∧ ((∀ k : Nat, k ≤ 3 → r1 ≠ nI k) → G κ mX10_doByDraws 138 [.null, .null, .null] [] M2 Q))))) :
    G κ mX10_doByDraws 0 [.ref 0, .null, .null] [] M Q := by
  refine g_aload_n (i := 0) dX10_doByDraws_0 rfl rfl ?_
  refine g_iconst (v := (5 : Int32)) dX10_doByDraws_1 (by decide) ?_
  refine gc_RX10_281 rfl (Nat.le_of_ble_eq_true rfl) dX10_doByDraws_2 sh_0 (Nat.le_of_ble_eq_true rfl) ?_
  refine Cl.mono h (fun r1 M1 h => ?_)
  refine g_istore_n (i := 1) (L' := [.ref 0, .int r1, .null]) dX10_doByDraws_5 rfl (Nat.le_of_ble_eq_true rfl) rfl rfl ?_
  refine g_aload_n (i := 0) dX10_doByDraws_6 rfl rfl ?_
  refine g_aload_n (i := 0) dX10_doByDraws_7 rfl rfl ?_
  refine gf_RX10_12 rfl dX10_doByDraws_8 sh_0 ?_
  refine gf_RX10_123 rfl dX10_doByDraws_11 sh_1 ?_
  refine gc_RX10_281 rfl (Nat.le_of_ble_eq_true rfl) dX10_doByDraws_14 sh_0 (Nat.le_of_ble_eq_true rfl) ?_
  refine Cl.mono h (fun r2 M2 h => ?_)
  refine g_istore_n (i := 2) (L' := [.ref 0, .int r1, .int r2]) dX10_doByDraws_17 rfl (Nat.le_of_ble_eq_true rfl) rfl rfl ?_
  refine g_iload_n (i := 1) dX10_doByDraws_18 rfl rfl ?_
  refine g_tab (hi := 3) (dt := 138) (fun k => ([48, 73, 91, 115] : List Nat).getD k 0) dX10_doByDraws_19 (by decide) (by decide) rfl (fun k hk hx => ?_) (fun hx => ?_)
  · rcases (show k = 0 ∨ k = 1 ∨ k = 2 ∨ k = 3 by omega) with rfl | rfl | rfl | rfl
    · replace h := h.1 hx
      show G κ mX10_doByDraws 48 _ _ _ _
      refine g_aload_n (i := 0) dX10_doByDraws_48 rfl rfl ?_
      refine gf_RX10_29 rfl dX10_doByDraws_49 sh_0 ?_
      refine gf_RX10_172 rfl dX10_doByDraws_52 sh_13 ?_
      refine g_iload_n (i := 2) dX10_doByDraws_55 rfl rfl ?_
      refine g_iconst (v := (1 : Int32)) dX10_doByDraws_56 (by decide) ?_
      refine g_aload_n (i := 0) dX10_doByDraws_57 rfl rfl ?_
      refine g_aload_n (i := 0) dX10_doByDraws_58 rfl rfl ?_
      refine gf_RX10_12 rfl dX10_doByDraws_59 sh_0 ?_
      refine gf_RX10_126 rfl dX10_doByDraws_62 sh_1 ?_
      refine gc_RX10_281 rfl (Nat.le_of_ble_eq_true rfl) dX10_doByDraws_65 sh_0 (Nat.le_of_ble_eq_true rfl) ?_
      refine Cl.mono h (fun r3 M3 h => ?_)
      refine g_ishl dX10_doByDraws_68 ?_
      have hv1 := h.1; replace h := h.2
      refine g_iastP dX10_doByDraws_69 sh_14 hv1 ?_
      refine g_nmM (fun M4 hM4 => ?_); replace h := h M4 hM4
      refine g_goto (tgt := 138) dX10_doByDraws_70 rfl ?_
      exact g_sub _ (sub_c (Or.inl rfl) (sub_c (Or.inl rfl) (sub_c (Or.inl rfl) sub_n))) h
    · replace h := h.2.1 hx
      show G κ mX10_doByDraws 73 _ _ _ _
      refine g_aload_n (i := 0) dX10_doByDraws_73 rfl rfl ?_
      refine gf_RX10_29 rfl dX10_doByDraws_74 sh_0 ?_
      refine gf_RX10_175 rfl dX10_doByDraws_77 sh_13 ?_
      refine g_iload_n (i := 2) dX10_doByDraws_80 rfl rfl ?_
      refine g_aload_n (i := 0) dX10_doByDraws_81 rfl rfl ?_
      refine g_bipush (v := (10 : Int32)) dX10_doByDraws_82 (by decide) ?_
      refine gc_RX10_281 rfl (Nat.le_of_ble_eq_true rfl) dX10_doByDraws_84 sh_0 (Nat.le_of_ble_eq_true rfl) ?_
      refine Cl.mono h (fun r5 M5 h => ?_)
      have hv2 := h.1; replace h := h.2
      refine g_iastP dX10_doByDraws_87 sh_15 hv2 ?_
      refine g_nmM (fun M6 hM6 => ?_); replace h := h M6 hM6
      refine g_goto (tgt := 138) dX10_doByDraws_88 rfl ?_
      exact g_sub _ (sub_c (Or.inl rfl) (sub_c (Or.inl rfl) (sub_c (Or.inl rfl) sub_n))) h
    · replace h := h.2.2.1 hx
      show G κ mX10_doByDraws 91 _ _ _ _
      refine g_aload_n (i := 0) dX10_doByDraws_91 rfl rfl ?_
      refine gf_RX10_29 rfl dX10_doByDraws_92 sh_0 ?_
      refine g_dup dX10_doByDraws_95 rfl ?_
      refine gf_RX10_138 rfl dX10_doByDraws_96 sh_13 ?_
      refine g_aload_n (i := 0) dX10_doByDraws_99 rfl rfl ?_
      refine gf_RX10_29 rfl dX10_doByDraws_100 sh_0 ?_
      refine gf_RX10_172 rfl dX10_doByDraws_103 sh_13 ?_
      refine g_iload_n (i := 2) dX10_doByDraws_106 rfl rfl ?_
      have hv3 := h.1; replace h := h.2
      refine g_iald dX10_doByDraws_107 sh_14 hv3 ?_
      refine g_ior dX10_doByDraws_108 ?_
      refine gp_RX10_138 rfl dX10_doByDraws_109 sh_13 ?_
      refine g_nmM (fun M7 hM7 => ?_); replace h := h M7 hM7
      refine g_goto (tgt := 138) dX10_doByDraws_112 rfl ?_
      exact g_sub _ (sub_c (Or.inl rfl) (sub_c (Or.inl rfl) (sub_c (Or.inl rfl) sub_n))) h
    · replace h := h.2.2.2.1 hx
      show G κ mX10_doByDraws 115 _ _ _ _
      refine g_aload_n (i := 0) dX10_doByDraws_115 rfl rfl ?_
      refine gf_RX10_29 rfl dX10_doByDraws_116 sh_0 ?_
      refine g_aload_n (i := 0) dX10_doByDraws_119 rfl rfl ?_
      refine gf_RX10_12 rfl dX10_doByDraws_120 sh_0 ?_
      refine g_iconst (v := (1 : Int32)) dX10_doByDraws_123 (by decide) ?_
      refine g_aload_n (i := 0) dX10_doByDraws_124 rfl rfl ?_
      refine g_bipush (v := (9 : Int32)) dX10_doByDraws_125 (by decide) ?_
      refine gc_RX10_281 rfl (Nat.le_of_ble_eq_true rfl) dX10_doByDraws_127 sh_0 (Nat.le_of_ble_eq_true rfl) ?_
      refine Cl.mono h (fun r8 M8 h => ?_)
      refine g_iadd dX10_doByDraws_130 ?_
      refine gc_RX10_202 rfl (Nat.le_of_ble_eq_true rfl) dX10_doByDraws_131 sh_13 (Nat.le_of_ble_eq_true rfl) ?_
      refine Cl.mono h (fun r9 M9 h => ?_)
      refine g_pop dX10_doByDraws_134 rfl ?_
      refine g_goto (tgt := 138) dX10_doByDraws_135 rfl ?_
      exact g_sub _ (sub_c (Or.inl rfl) (sub_c (Or.inl rfl) (sub_c (Or.inl rfl) sub_n))) h
  · replace h := h.2.2.2.2 hx
    exact g_sub _ (sub_c (Or.inl rfl) (sub_c (Or.inl rfl) (sub_c (Or.inl rfl) sub_n))) h
theorem bX10_doByDraws_138 {κ : gK} {M : MM} {Q : Int32 → MM → Prop} 
    (h : Q 0 M) :
    G κ mX10_doByDraws 138 [.null, .null, .null] [] M Q := by
  exact g_vret dX10_doByDraws_138 rfl h
theorem eX10_doByDraws {κ : gK} {M : MM} {Q : Int32 → MM → Prop} 
    (h : G κ mX10_doByDraws 0 [.ref 0, .null, .null] [] M Q) : Cl κ mX10_doByDraws [.ref 0] M Q := g_entry 2 pl_X10_doByDraws (Nat.le_of_ble_eq_true rfl) (L := [.ref 0, .null, .null]) rfl (g_sub _ (sub_c (Or.inr rfl) (sub_c (Or.inr rfl) (sub_c (Or.inr rfl) sub_n))) h)
