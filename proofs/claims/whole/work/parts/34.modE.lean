theorem dX11_torn_0 : decode cX11_torn 0 = .ok (.aload_n 0, 1) := by decide +kernel
theorem dX11_torn_1 : decode cX11_torn 1 = .ok (.iload_n 1, 1) := by decide +kernel
theorem dX11_torn_2 : decode cX11_torn 2 = .ok (.invokevirtual 203, 3) := by decide +kernel
theorem dX11_torn_5 : decode cX11_torn 5 = .ok (.ifCond .eq 30, 3) := by decide +kernel
theorem dX11_torn_8 : decode cX11_torn 8 = .ok (.aload_n 0, 1) := by decide +kernel
theorem dX11_torn_9 : decode cX11_torn 9 = .ok (.iload_n 2, 1) := by decide +kernel
theorem dX11_torn_10 : decode cX11_torn 10 = .ok (.invokevirtual 203, 3) := by decide +kernel
theorem dX11_torn_13 : decode cX11_torn 13 = .ok (.ifCond .eq 22, 3) := by decide +kernel
theorem dX11_torn_16 : decode cX11_torn 16 = .ok (.iload_n 1, 1) := by decide +kernel
theorem dX11_torn_17 : decode cX11_torn 17 = .ok (.iload_n 2, 1) := by decide +kernel
theorem dX11_torn_18 : decode cX11_torn 18 = .ok (.if_icmp .eq 17, 3) := by decide +kernel
theorem dX11_torn_21 : decode cX11_torn 21 = .ok (.aload_n 0, 1) := by decide +kernel
theorem dX11_torn_22 : decode cX11_torn 22 = .ok (.iload_n 1, 1) := by decide +kernel
theorem dX11_torn_23 : decode cX11_torn 23 = .ok (.invokevirtual 107, 3) := by decide +kernel
theorem dX11_torn_26 : decode cX11_torn 26 = .ok (.aload_n 0, 1) := by decide +kernel
theorem dX11_torn_27 : decode cX11_torn 27 = .ok (.iload_n 2, 1) := by decide +kernel
theorem dX11_torn_28 : decode cX11_torn 28 = .ok (.invokevirtual 107, 3) := by decide +kernel
theorem dX11_torn_31 : decode cX11_torn 31 = .ok (.iand, 1) := by decide +kernel
theorem dX11_torn_32 : decode cX11_torn 32 = .ok (.goto 5, 3) := by decide +kernel
theorem dX11_torn_35 : decode cX11_torn 35 = .ok (.ldc 199, 2) := by decide +kernel
theorem dX11_torn_37 : decode cX11_torn 37 = .ok (.ireturn, 1) := by decide +kernel
theorem bX11_torn_0 {κ : gK} {M : MM} {Q : Int32 → MM → Prop} (l1 : Int32) (l2 : Int32)
    (h : Cl κ mX11_isLayer [.ref 119, .int l1] M (fun r1 M1 => ((r1 = 0 → G κ mX11_torn 35 [.null, .null, .null] [] M1 Q) ∧ (¬ r1 = 0 → Cl κ mX11_isLayer [.ref 119, .int l2] M1 (fun r2 M2 => ((r2 = 0 → G κ mX11_torn 35 [.null, .null, .null] [] M2 Q) ∧ (¬ r2 = 0 → ((l1 = l2 → G κ mX11_torn 35 [.null, .null, .null] [] M2 Q) ∧ (¬ l1 = l2 → Cl κ mX11_whoOn [.ref 119, .int l1] M2 (fun r3 M3 => Cl κ mX11_whoOn [.ref 119, .int l2] M3 (fun r4 M4 => G κ mX11_torn 37 [.null, .null, .null] [.int (r3 &&& r4)] M4 Q))))))))))) :
    G κ mX11_torn 0 [.ref 119, .int l1, .int l2] [] M Q := by
  refine g_aload_n (i := 0) dX11_torn_0 rfl rfl ?_
  refine g_iload_n (i := 1) dX11_torn_1 rfl rfl ?_
  refine gc_RX11_203 rfl (Nat.le_of_ble_eq_true rfl) dX11_torn_2 sh_119 (Nat.le_of_ble_eq_true rfl) ?_
  refine Cl.mono h (fun r1 M1 h => ?_)
  refine g_if_eq (tgt := 35) dX11_torn_5 rfl ⟨fun hc => ?_, fun hc => ?_⟩
  · replace h := h.1 hc
    exact g_sub _ (sub_c (Or.inl rfl) (sub_c (Or.inl rfl) (sub_c (Or.inl rfl) sub_n))) h
  · replace h := h.2 hc
    refine g_aload_n (i := 0) dX11_torn_8 rfl rfl ?_
    refine g_iload_n (i := 2) dX11_torn_9 rfl rfl ?_
    refine gc_RX11_203 rfl (Nat.le_of_ble_eq_true rfl) dX11_torn_10 sh_119 (Nat.le_of_ble_eq_true rfl) ?_
    refine Cl.mono h (fun r2 M2 h => ?_)
    refine g_if_eq (tgt := 35) dX11_torn_13 rfl ⟨fun hc => ?_, fun hc => ?_⟩
    · replace h := h.1 hc
      exact g_sub _ (sub_c (Or.inl rfl) (sub_c (Or.inl rfl) (sub_c (Or.inl rfl) sub_n))) h
    · replace h := h.2 hc
      refine g_iload_n (i := 1) dX11_torn_16 rfl rfl ?_
      refine g_iload_n (i := 2) dX11_torn_17 rfl rfl ?_
      refine g_icmp_eq (tgt := 35) dX11_torn_18 rfl ⟨fun hc => ?_, fun hc => ?_⟩
      · replace h := h.1 hc
        exact g_sub _ (sub_c (Or.inl rfl) (sub_c (Or.inl rfl) (sub_c (Or.inl rfl) sub_n))) h
      · replace h := h.2 hc
        refine g_aload_n (i := 0) dX11_torn_21 rfl rfl ?_
        refine g_iload_n (i := 1) dX11_torn_22 rfl rfl ?_
        refine gc_RX11_107 rfl (Nat.le_of_ble_eq_true rfl) dX11_torn_23 sh_119 (Nat.le_of_ble_eq_true rfl) ?_
        refine Cl.mono h (fun r3 M3 h => ?_)
        refine g_aload_n (i := 0) dX11_torn_26 rfl rfl ?_
        refine g_iload_n (i := 2) dX11_torn_27 rfl rfl ?_
        refine gc_RX11_107 rfl (Nat.le_of_ble_eq_true rfl) dX11_torn_28 sh_119 (Nat.le_of_ble_eq_true rfl) ?_
        refine Cl.mono h (fun r4 M4 h => ?_)
        refine g_iand dX11_torn_31 ?_
        refine g_goto (tgt := 37) dX11_torn_32 rfl ?_
        exact g_sub _ (sub_c (Or.inl rfl) (sub_c (Or.inl rfl) (sub_c (Or.inl rfl) sub_n))) h
theorem bX11_torn_35 {κ : gK} {M : MM} {Q : Int32 → MM → Prop} 
    (h : G κ mX11_torn 37 [.null, .null, .null] [.int (-1000000001 : Int32)] M Q) :
    G κ mX11_torn 35 [.null, .null, .null] [] M Q := by
  refine g_ldc dX11_torn_35 wt_984 ?_
  exact h
theorem bX11_torn_37 {κ : gK} {M : MM} {Q : Int32 → MM → Prop} (s0 : Int32)
    (h : Q s0 M) :
    G κ mX11_torn 37 [.null, .null, .null] [.int s0] M Q := by
  exact g_iret dX11_torn_37 rfl h
theorem eX11_torn {κ : gK} {M : MM} {Q : Int32 → MM → Prop} (l1 : Int32) (l2 : Int32)
    (h : G κ mX11_torn 0 [.ref 119, .int l1, .int l2] [] M Q) : Cl κ mX11_torn [.ref 119, .int l1, .int l2] M Q := g_entry 0 pl_X11_torn (Nat.le_of_ble_eq_true rfl) (L := [.ref 119, .int l1, .int l2]) rfl (g_sub _ (sub_c (Or.inr rfl) (sub_c (Or.inr rfl) (sub_c (Or.inr rfl) sub_n))) h)
theorem dX11_dark_0 : decode cX11_dark 0 = .ok (.iload_n 1, 1) := by decide +kernel
theorem dX11_dark_1 : decode cX11_dark 1 = .ok (.i2l, 1) := by decide +kernel
theorem dX11_dark_2 : decode cX11_dark 2 = .ok (.lconst 0, 1) := by decide +kernel
theorem dX11_dark_3 : decode cX11_dark 3 = .ok (.ldc2_w 206, 3) := by decide +kernel
theorem dX11_dark_6 : decode cX11_dark 6 = .ok (.invokestatic 63, 3) := by decide +kernel
theorem dX11_dark_9 : decode cX11_dark 9 = .ok (.ifCond .eq 15, 3) := by decide +kernel
theorem dX11_dark_12 : decode cX11_dark 12 = .ok (.iload_n 2, 1) := by decide +kernel
theorem dX11_dark_13 : decode cX11_dark 13 = .ok (.i2l, 1) := by decide +kernel
theorem dX11_dark_14 : decode cX11_dark 14 = .ok (.lconst 0, 1) := by decide +kernel
theorem dX11_dark_15 : decode cX11_dark 15 = .ok (.ldc2_w 260, 3) := by decide +kernel
theorem dX11_dark_18 : decode cX11_dark 18 = .ok (.invokestatic 63, 3) := by decide +kernel
theorem dX11_dark_21 : decode cX11_dark 21 = .ok (.ifCond .ne 6, 3) := by decide +kernel
theorem dX11_dark_24 : decode cX11_dark 24 = .ok (.ldc 112, 2) := by decide +kernel
theorem dX11_dark_26 : decode cX11_dark 26 = .ok (.ireturn, 1) := by decide +kernel
theorem dX11_dark_27 : decode cX11_dark 27 = .ok (.ldc2_w 262, 3) := by decide +kernel
theorem dX11_dark_30 : decode cX11_dark 30 = .ok (.lstore_n 3, 1) := by decide +kernel
theorem dX11_dark_31 : decode cX11_dark 31 = .ok (.iconst 0, 1) := by decide +kernel
theorem dX11_dark_32 : decode cX11_dark 32 = .ok (.istore 5, 2) := by decide +kernel
theorem dX11_dark_34 : decode cX11_dark 34 = .ok (.iload 5, 2) := by decide +kernel
theorem dX11_dark_36 : decode cX11_dark 36 = .ok (.iload_n 1, 1) := by decide +kernel
theorem dX11_dark_37 : decode cX11_dark 37 = .ok (.if_icmp .ge 18, 3) := by decide +kernel
theorem dX11_dark_40 : decode cX11_dark 40 = .ok (.lload_n 3, 1) := by decide +kernel
theorem dX11_dark_41 : decode cX11_dark 41 = .ok (.iload_n 2, 1) := by decide +kernel
theorem dX11_dark_42 : decode cX11_dark 42 = .ok (.i2l, 1) := by decide +kernel
theorem dX11_dark_43 : decode cX11_dark 43 = .ok (.lmul, 1) := by decide +kernel
theorem dX11_dark_44 : decode cX11_dark 44 = .ok (.ldc2_w 260, 3) := by decide +kernel
theorem dX11_dark_47 : decode cX11_dark 47 = .ok (.ldiv, 1) := by decide +kernel
theorem dX11_dark_48 : decode cX11_dark 48 = .ok (.lstore_n 3, 1) := by decide +kernel
theorem dX11_dark_49 : decode cX11_dark 49 = .ok (.iinc 5 1, 3) := by decide +kernel
theorem dX11_dark_52 : decode cX11_dark 52 = .ok (.goto (-18), 3) := by decide +kernel
theorem dX11_dark_55 : decode cX11_dark 55 = .ok (.lload_n 3, 1) := by decide +kernel
theorem dX11_dark_56 : decode cX11_dark 56 = .ok (.l2i, 1) := by decide +kernel
theorem dX11_dark_57 : decode cX11_dark 57 = .ok (.ireturn, 1) := by decide +kernel
theorem bX11_dark_0 {κ : gK} {M : MM} {Q : Int32 → MM → Prop} (l1 : Int32) (l2 : Int32)
    (h : Cl κ mX11_in [.long (l1).toInt64, .long (0 : Int64), .long (60 : Int64)] M (fun r1 M1 => ((r1 = 0 → G κ mX11_dark 24 [.null, .null, .null, .null, .null, .null] [] M1 Q) ∧ (¬ r1 = 0 → Cl κ mX11_in [.long (l2).toInt64, .long (0 : Int64), .long (100 : Int64)] M1 (fun r2 M2 => ((r2 = 0 → G κ mX11_dark 24 [.null, .null, .null, .null, .null, .null] [] M2 Q) ∧ (¬ r2 = 0 → G κ mX11_dark 34 [.null, .int l1, .int l2, .long (1000000000 : Int64), .null, .int (0 : Int32)] [] M2 Q))))))) :
    G κ mX11_dark 0 [.null, .int l1, .int l2, .null, .null, .null] [] M Q := by
  refine g_iload_n (i := 1) dX11_dark_0 rfl rfl ?_
  refine g_i2l dX11_dark_1 ?_
  refine g_lconst (v := (0 : Int64)) dX11_dark_2 (by decide) ?_
  refine g_ldc2 dX11_dark_3 wt_1001 ?_
  refine gc_RX11_63 rfl (Nat.le_of_ble_eq_true rfl) dX11_dark_6 (Nat.le_of_ble_eq_true rfl) ?_
  refine Cl.mono h (fun r1 M1 h => ?_)
  refine g_if_eq (tgt := 24) dX11_dark_9 rfl ⟨fun hc => ?_, fun hc => ?_⟩
  · replace h := h.1 hc
    exact g_sub _ (sub_c (Or.inr rfl) (sub_c (Or.inl rfl) (sub_c (Or.inl rfl) (sub_c (Or.inr rfl) (sub_c (Or.inr rfl) (sub_c (Or.inr rfl) sub_n)))))) h
  · replace h := h.2 hc
    refine g_iload_n (i := 2) dX11_dark_12 rfl rfl ?_
    refine g_i2l dX11_dark_13 ?_
    refine g_lconst (v := (0 : Int64)) dX11_dark_14 (by decide) ?_
    refine g_ldc2 dX11_dark_15 wt_1137 ?_
    refine gc_RX11_63 rfl (Nat.le_of_ble_eq_true rfl) dX11_dark_18 (Nat.le_of_ble_eq_true rfl) ?_
    refine Cl.mono h (fun r2 M2 h => ?_)
    refine g_if_ne (tgt := 27) dX11_dark_21 rfl ⟨fun hc => ?_, fun hc => ?_⟩
    · replace h := h.1 hc
      exact g_sub _ (sub_c (Or.inr rfl) (sub_c (Or.inl rfl) (sub_c (Or.inl rfl) (sub_c (Or.inr rfl) (sub_c (Or.inr rfl) (sub_c (Or.inr rfl) sub_n)))))) h
    · replace h := h.2 hc
      refine g_ldc2 dX11_dark_27 wt_1138 ?_
      refine g_lstore_n (i := 3) (L' := [.null, .int l1, .int l2, .long (1000000000 : Int64), .null, .null]) dX11_dark_30 rfl (Nat.le_of_ble_eq_true rfl) rfl rfl ?_
      refine g_iconst (v := (0 : Int32)) dX11_dark_31 (by decide) ?_
      refine g_istore (i := 5) (L' := [.null, .int l1, .int l2, .long (1000000000 : Int64), .null, .int (0 : Int32)]) dX11_dark_32 (Nat.le_of_ble_eq_true rfl) rfl rfl ?_
      exact h
theorem bX11_dark_24 {κ : gK} {M : MM} {Q : Int32 → MM → Prop} 
    (h : Q (-1000000002 : Int32) M) :
    G κ mX11_dark 24 [.null, .null, .null, .null, .null, .null] [] M Q := by
  refine g_ldc dX11_dark_24 wt_873 ?_
  exact g_iret dX11_dark_26 rfl h
theorem bX11_dark_34 {κ : gK} {M : MM} {Q : Int32 → MM → Prop} (l1 : Int32) (l2 : Int32) (l3 : Int64) (l5 : Int32)
    (h : ((l1 ≤ l5 → Q (l3).toInt32 M) ∧ (¬ l1 ≤ l5 → G κ mX11_dark 34 [.null, .int l1, .int l2, .long ((l3 * (l2).toInt64) / (100 : Int64)), .null, .int (l5 + 1)] [] M Q))) :
    G κ mX11_dark 34 [.null, .int l1, .int l2, .long l3, .null, .int l5] [] M Q := by
  refine g_iload (i := 5) dX11_dark_34 rfl ?_
  refine g_iload_n (i := 1) dX11_dark_36 rfl rfl ?_
  refine g_icmp_ge (tgt := 55) dX11_dark_37 rfl ⟨fun hc => ?_, fun hc => ?_⟩
  · replace h := h.1 hc
    refine g_lload_n (i := 3) dX11_dark_55 rfl rfl ?_
    refine g_l2i dX11_dark_56 ?_
    exact g_iret dX11_dark_57 rfl h
  · replace h := h.2 hc
    refine g_lload_n (i := 3) dX11_dark_40 rfl rfl ?_
    refine g_iload_n (i := 2) dX11_dark_41 rfl rfl ?_
    refine g_i2l dX11_dark_42 ?_
    refine g_lmul dX11_dark_43 ?_
    refine g_ldc2 dX11_dark_44 wt_1137 ?_
    refine g_ldiv dX11_dark_47 (by decide) ?_
    refine g_lstore_n (i := 3) (L' := [.null, .int l1, .int l2, .long ((l3 * (l2).toInt64) / (100 : Int64)), .null, .int l5]) dX11_dark_48 rfl (Nat.le_of_ble_eq_true rfl) rfl rfl ?_
    refine g_iinc (v := (l5 + 1)) (L' := [.null, .int l1, .int l2, .long ((l3 * (l2).toInt64) / (100 : Int64)), .null, .int (l5 + 1)]) dX11_dark_49 rfl rfl (Nat.le_of_ble_eq_true rfl) rfl rfl ?_
    refine g_goto (tgt := 34) dX11_dark_52 rfl ?_
    exact h
theorem eX11_dark {κ : gK} {M : MM} {Q : Int32 → MM → Prop} (l1 : Int32) (l2 : Int32)
    (h : G κ mX11_dark 0 [.null, .int l1, .int l2, .null, .null, .null] [] M Q) : Cl κ mX11_dark [.ref 119, .int l1, .int l2] M Q := g_entry 3 pl_X11_dark (Nat.le_of_ble_eq_true rfl) (L := [.ref 119, .int l1, .int l2, .null, .null, .null]) rfl (g_sub _ (sub_c (Or.inl rfl) (sub_c (Or.inr rfl) (sub_c (Or.inr rfl) (sub_c (Or.inr rfl) (sub_c (Or.inr rfl) (sub_c (Or.inr rfl) sub_n)))))) h)
theorem dX11_shadow_0 : decode cX11_shadow 0 = .ok (.iload_n 1, 1) := by decide +kernel
theorem dX11_shadow_1 : decode cX11_shadow 1 = .ok (.i2l, 1) := by decide +kernel
theorem dX11_shadow_2 : decode cX11_shadow 2 = .ok (.lconst 1, 1) := by decide +kernel
theorem dX11_shadow_3 : decode cX11_shadow 3 = .ok (.ldc2_w 215, 3) := by decide +kernel
theorem dX11_shadow_6 : decode cX11_shadow 6 = .ok (.invokestatic 63, 3) := by decide +kernel
theorem dX11_shadow_9 : decode cX11_shadow 9 = .ok (.ifCond .eq 19, 3) := by decide +kernel
theorem dX11_shadow_12 : decode cX11_shadow 12 = .ok (.iload_n 2, 1) := by decide +kernel
theorem dX11_shadow_13 : decode cX11_shadow 13 = .ok (.i2l, 1) := by decide +kernel
theorem dX11_shadow_14 : decode cX11_shadow 14 = .ok (.lconst 0, 1) := by decide +kernel
theorem dX11_shadow_15 : decode cX11_shadow 15 = .ok (.aload_n 0, 1) := by decide +kernel
theorem dX11_shadow_16 : decode cX11_shadow 16 = .ok (.getfield 67, 3) := by decide +kernel
theorem dX11_shadow_19 : decode cX11_shadow 19 = .ok (.iconst 1, 1) := by decide +kernel
theorem dX11_shadow_20 : decode cX11_shadow 20 = .ok (.isub, 1) := by decide +kernel
theorem dX11_shadow_21 : decode cX11_shadow 21 = .ok (.i2l, 1) := by decide +kernel
theorem dX11_shadow_22 : decode cX11_shadow 22 = .ok (.invokestatic 63, 3) := by decide +kernel
theorem dX11_shadow_25 : decode cX11_shadow 25 = .ok (.ifCond .ne 6, 3) := by decide +kernel
theorem dX11_shadow_28 : decode cX11_shadow 28 = .ok (.ldc 112, 2) := by decide +kernel
theorem dX11_shadow_30 : decode cX11_shadow 30 = .ok (.ireturn, 1) := by decide +kernel
theorem dX11_shadow_31 : decode cX11_shadow 31 = .ok (.aload_n 0, 1) := by decide +kernel
theorem dX11_shadow_32 : decode cX11_shadow 32 = .ok (.getfield 167, 3) := by decide +kernel
theorem dX11_shadow_35 : decode cX11_shadow 35 = .ok (.bipush 6, 2) := by decide +kernel
theorem dX11_shadow_37 : decode cX11_shadow 37 = .ok (.if_icmp .ne 6, 3) := by decide +kernel
theorem dX11_shadow_40 : decode cX11_shadow 40 = .ok (.ldc 116, 2) := by decide +kernel
theorem dX11_shadow_42 : decode cX11_shadow 42 = .ok (.ireturn, 1) := by decide +kernel
theorem dX11_shadow_43 : decode cX11_shadow 43 = .ok (.aload_n 0, 1) := by decide +kernel
theorem dX11_shadow_44 : decode cX11_shadow 44 = .ok (.getfield 41, 3) := by decide +kernel
theorem dX11_shadow_47 : decode cX11_shadow 47 = .ok (.iconst 2, 1) := by decide +kernel
theorem dX11_shadow_48 : decode cX11_shadow 48 = .ok (.aload_n 0, 1) := by decide +kernel
theorem dX11_shadow_49 : decode cX11_shadow 49 = .ok (.getfield 167, 3) := by decide +kernel
theorem dX11_shadow_52 : decode cX11_shadow 52 = .ok (.imul, 1) := by decide +kernel
theorem dX11_shadow_53 : decode cX11_shadow 53 = .ok (.iload_n 1, 1) := by decide +kernel
theorem dX11_shadow_54 : decode cX11_shadow 54 = .ok (.iastore, 1) := by decide +kernel
theorem dX11_shadow_55 : decode cX11_shadow 55 = .ok (.aload_n 0, 1) := by decide +kernel
theorem dX11_shadow_56 : decode cX11_shadow 56 = .ok (.getfield 41, 3) := by decide +kernel
theorem dX11_shadow_59 : decode cX11_shadow 59 = .ok (.iconst 2, 1) := by decide +kernel
theorem dX11_shadow_60 : decode cX11_shadow 60 = .ok (.aload_n 0, 1) := by decide +kernel
theorem dX11_shadow_61 : decode cX11_shadow 61 = .ok (.getfield 167, 3) := by decide +kernel
theorem dX11_shadow_64 : decode cX11_shadow 64 = .ok (.imul, 1) := by decide +kernel
theorem dX11_shadow_65 : decode cX11_shadow 65 = .ok (.iconst 1, 1) := by decide +kernel
theorem dX11_shadow_66 : decode cX11_shadow 66 = .ok (.iadd, 1) := by decide +kernel
theorem dX11_shadow_67 : decode cX11_shadow 67 = .ok (.iload_n 2, 1) := by decide +kernel
theorem dX11_shadow_68 : decode cX11_shadow 68 = .ok (.iastore, 1) := by decide +kernel
theorem dX11_shadow_69 : decode cX11_shadow 69 = .ok (.aload_n 0, 1) := by decide +kernel
theorem dX11_shadow_70 : decode cX11_shadow 70 = .ok (.dup, 1) := by decide +kernel
theorem dX11_shadow_71 : decode cX11_shadow 71 = .ok (.getfield 167, 3) := by decide +kernel
theorem dX11_shadow_74 : decode cX11_shadow 74 = .ok (.iconst 1, 1) := by decide +kernel
theorem dX11_shadow_75 : decode cX11_shadow 75 = .ok (.iadd, 1) := by decide +kernel
theorem dX11_shadow_76 : decode cX11_shadow 76 = .ok (.putfield 167, 3) := by decide +kernel
theorem dX11_shadow_79 : decode cX11_shadow 79 = .ok (.aload_n 0, 1) := by decide +kernel
theorem dX11_shadow_80 : decode cX11_shadow 80 = .ok (.getfield 167, 3) := by decide +kernel
theorem dX11_shadow_83 : decode cX11_shadow 83 = .ok (.ireturn, 1) := by decide +kernel
theorem bX11_shadow_0 {κ : gK} {M : MM} {Q : Int32 → MM → Prop} (l1 : Int32) (l2 : Int32)
    (h : Cl κ mX11_in [.long (l1).toInt64, .long (1 : Int64), .long (9 : Int64)] M (fun r1 M1 => ((r1 = 0 → G κ mX11_shadow 28 [.null, .null, .null] [] M1 Q) ∧ (¬ r1 = 0 → Cl κ mX11_in [.long (l2).toInt64, .long (0 : Int64), .long (((M1 119 0) - (1 : Int32))).toInt64] M1 (fun r2 M2 => ((r2 = 0 → G κ mX11_shadow 28 [.null, .null, .null] [] M2 Q) ∧ (¬ r2 = 0 → (((M2 119 24) = (6 : Int32) → Q (-1000000004 : Int32) M2) ∧ (¬ (M2 119 24) = (6 : Int32) → (vp_in ((2 : Int32) * (M2 119 24)) 12) ∧ (∀ M3 : MM, M3 = (pt M2 129 (((2 : Int32) * (M2 119 24))).toNatClampNeg l1) → ((vp_in (((2 : Int32) * (M3 119 24)) + (1 : Int32)) 12) ∧ (∀ M4 : MM, M4 = (pt M3 129 ((((2 : Int32) * (M3 119 24)) + (1 : Int32))).toNatClampNeg l2) → (∀ M5 : MM, M5 = (pt M4 119 24 ((M4 119 24) + (1 : Int32))) → (Q (M5 119 24) M5)))))))))))))) :
    G κ mX11_shadow 0 [.ref 119, .int l1, .int l2] [] M Q := by
  refine g_iload_n (i := 1) dX11_shadow_0 rfl rfl ?_
  refine g_i2l dX11_shadow_1 ?_
  refine g_lconst (v := (1 : Int64)) dX11_shadow_2 (by decide) ?_
  refine g_ldc2 dX11_shadow_3 wt_1028 ?_
  refine gc_RX11_63 rfl (Nat.le_of_ble_eq_true rfl) dX11_shadow_6 (Nat.le_of_ble_eq_true rfl) ?_
  refine Cl.mono h (fun r1 M1 h => ?_)
  refine g_if_eq (tgt := 28) dX11_shadow_9 rfl ⟨fun hc => ?_, fun hc => ?_⟩
  · replace h := h.1 hc
    exact g_sub _ (sub_c (Or.inl rfl) (sub_c (Or.inl rfl) (sub_c (Or.inl rfl) sub_n))) h
  · replace h := h.2 hc
    refine g_iload_n (i := 2) dX11_shadow_12 rfl rfl ?_
    refine g_i2l dX11_shadow_13 ?_
    refine g_lconst (v := (0 : Int64)) dX11_shadow_14 (by decide) ?_
    refine g_aload_n (i := 0) dX11_shadow_15 rfl rfl ?_
    refine gf_RX11_67 rfl dX11_shadow_16 sh_119 ?_
    refine g_iconst (v := (1 : Int32)) dX11_shadow_19 (by decide) ?_
    refine g_isub dX11_shadow_20 ?_
    refine g_i2l dX11_shadow_21 ?_
    refine gc_RX11_63 rfl (Nat.le_of_ble_eq_true rfl) dX11_shadow_22 (Nat.le_of_ble_eq_true rfl) ?_
    refine Cl.mono h (fun r2 M2 h => ?_)
    refine g_if_ne (tgt := 31) dX11_shadow_25 rfl ⟨fun hc => ?_, fun hc => ?_⟩
    · replace h := h.1 hc
      exact g_sub _ (sub_c (Or.inl rfl) (sub_c (Or.inl rfl) (sub_c (Or.inl rfl) sub_n))) h
    · replace h := h.2 hc
      refine g_aload_n (i := 0) dX11_shadow_31 rfl rfl ?_
      refine gf_RX11_167 rfl dX11_shadow_32 sh_119 ?_
      refine g_bipush (v := (6 : Int32)) dX11_shadow_35 (by decide) ?_
      refine g_icmp_ne (tgt := 43) dX11_shadow_37 rfl ⟨fun hc => ?_, fun hc => ?_⟩
      · replace h := h.1 hc
        refine g_ldc dX11_shadow_40 wt_874 ?_
        exact g_iret dX11_shadow_42 rfl h
      · replace h := h.2 hc
        refine g_aload_n (i := 0) dX11_shadow_43 rfl rfl ?_
        refine gf_RX11_41 rfl dX11_shadow_44 sh_119 ?_
        refine g_iconst (v := (2 : Int32)) dX11_shadow_47 (by decide) ?_
        refine g_aload_n (i := 0) dX11_shadow_48 rfl rfl ?_
        refine gf_RX11_167 rfl dX11_shadow_49 sh_119 ?_
        refine g_imul dX11_shadow_52 ?_
        refine g_iload_n (i := 1) dX11_shadow_53 rfl rfl ?_
        have hv1 := h.1; replace h := h.2
        refine g_iastP dX11_shadow_54 sh_129 hv1 ?_
        refine g_nmM (fun M3 hM3 => ?_); replace h := h M3 hM3
        refine g_aload_n (i := 0) dX11_shadow_55 rfl rfl ?_
        refine gf_RX11_41 rfl dX11_shadow_56 sh_119 ?_
        refine g_iconst (v := (2 : Int32)) dX11_shadow_59 (by decide) ?_
        refine g_aload_n (i := 0) dX11_shadow_60 rfl rfl ?_
        refine gf_RX11_167 rfl dX11_shadow_61 sh_119 ?_
        refine g_imul dX11_shadow_64 ?_
        refine g_iconst (v := (1 : Int32)) dX11_shadow_65 (by decide) ?_
        refine g_iadd dX11_shadow_66 ?_
        refine g_iload_n (i := 2) dX11_shadow_67 rfl rfl ?_
        have hv2 := h.1; replace h := h.2
        refine g_iastP dX11_shadow_68 sh_129 hv2 ?_
        refine g_nmM (fun M4 hM4 => ?_); replace h := h M4 hM4
        refine g_aload_n (i := 0) dX11_shadow_69 rfl rfl ?_
        refine g_dup dX11_shadow_70 rfl ?_
        refine gf_RX11_167 rfl dX11_shadow_71 sh_119 ?_
        refine g_iconst (v := (1 : Int32)) dX11_shadow_74 (by decide) ?_
        refine g_iadd dX11_shadow_75 ?_
        refine gp_RX11_167 rfl dX11_shadow_76 sh_119 ?_
        refine g_nmM (fun M5 hM5 => ?_); replace h := h M5 hM5
        refine g_aload_n (i := 0) dX11_shadow_79 rfl rfl ?_
        refine gf_RX11_167 rfl dX11_shadow_80 sh_119 ?_
        exact g_iret dX11_shadow_83 rfl h
theorem bX11_shadow_28 {κ : gK} {M : MM} {Q : Int32 → MM → Prop} 
    (h : Q (-1000000002 : Int32) M) :
    G κ mX11_shadow 28 [.null, .null, .null] [] M Q := by
  refine g_ldc dX11_shadow_28 wt_873 ?_
  exact g_iret dX11_shadow_30 rfl h
theorem eX11_shadow {κ : gK} {M : MM} {Q : Int32 → MM → Prop} (l1 : Int32) (l2 : Int32)
    (h : G κ mX11_shadow 0 [.ref 119, .int l1, .int l2] [] M Q) : Cl κ mX11_shadow [.ref 119, .int l1, .int l2] M Q := g_entry 0 pl_X11_shadow (Nat.le_of_ble_eq_true rfl) (L := [.ref 119, .int l1, .int l2]) rfl (g_sub _ (sub_c (Or.inr rfl) (sub_c (Or.inr rfl) (sub_c (Or.inr rfl) sub_n))) h)
theorem dX11_goes_0 : decode cX11_goes 0 = .ok (.iload_n 1, 1) := by decide +kernel
theorem dX11_goes_1 : decode cX11_goes 1 = .ok (.bipush 10, 2) := by decide +kernel
theorem dX11_goes_3 : decode cX11_goes 3 = .ok (.idiv, 1) := by decide +kernel
theorem dX11_goes_4 : decode cX11_goes 4 = .ok (.ifCond .ne 7, 3) := by decide +kernel
theorem dX11_goes_7 : decode cX11_goes 7 = .ok (.iconst 1, 1) := by decide +kernel
theorem dX11_goes_8 : decode cX11_goes 8 = .ok (.goto 21, 3) := by decide +kernel
theorem dX11_goes_11 : decode cX11_goes 11 = .ok (.iload_n 1, 1) := by decide +kernel
theorem dX11_goes_12 : decode cX11_goes 12 = .ok (.bipush 10, 2) := by decide +kernel
theorem dX11_goes_14 : decode cX11_goes 14 = .ok (.idiv, 1) := by decide +kernel
theorem dX11_goes_15 : decode cX11_goes 15 = .ok (.iconst 1, 1) := by decide +kernel
theorem dX11_goes_16 : decode cX11_goes 16 = .ok (.if_icmp .ne 7, 3) := by decide +kernel
theorem dX11_goes_19 : decode cX11_goes 19 = .ok (.iconst 2, 1) := by decide +kernel
theorem dX11_goes_20 : decode cX11_goes 20 = .ok (.goto 9, 3) := by decide +kernel
theorem dX11_goes_23 : decode cX11_goes 23 = .ok (.aload_n 0, 1) := by decide +kernel
theorem dX11_goes_24 : decode cX11_goes 24 = .ok (.getfield 67, 3) := by decide +kernel
theorem dX11_goes_27 : decode cX11_goes 27 = .ok (.iconst 1, 1) := by decide +kernel
theorem dX11_goes_28 : decode cX11_goes 28 = .ok (.isub, 1) := by decide +kernel
theorem dX11_goes_29 : decode cX11_goes 29 = .ok (.istore_n 3, 1) := by decide +kernel
theorem dX11_goes_30 : decode cX11_goes 30 = .ok (.iload_n 1, 1) := by decide +kernel
theorem dX11_goes_31 : decode cX11_goes 31 = .ok (.bipush 10, 2) := by decide +kernel
theorem dX11_goes_33 : decode cX11_goes 33 = .ok (.irem, 1) := by decide +kernel
theorem dX11_goes_34 : decode cX11_goes 34 = .ok (.iload_n 2, 1) := by decide +kernel
theorem dX11_goes_35 : decode cX11_goes 35 = .ok (.if_icmp .lt 12, 3) := by decide +kernel
theorem dX11_goes_38 : decode cX11_goes 38 = .ok (.iload_n 3, 1) := by decide +kernel
theorem dX11_goes_39 : decode cX11_goes 39 = .ok (.aload_n 0, 1) := by decide +kernel
theorem dX11_goes_40 : decode cX11_goes 40 = .ok (.getfield 67, 3) := by decide +kernel
theorem dX11_goes_43 : decode cX11_goes 43 = .ok (.irem, 1) := by decide +kernel
theorem dX11_goes_44 : decode cX11_goes 44 = .ok (.goto 4, 3) := by decide +kernel
theorem dX11_goes_47 : decode cX11_goes 47 = .ok (.iconst 0, 1) := by decide +kernel
theorem dX11_goes_48 : decode cX11_goes 48 = .ok (.ireturn, 1) := by decide +kernel
theorem bX11_goes_0 {κ : gK} {M : MM} {Q : Int32 → MM → Prop} (l1 : Int32) (l2 : Int32)
    (h : (((l1 / (10 : Int32)) = 0 → G κ mX11_goes 29 [.ref 119, .int l1, .int l2, .null] [.int (1 : Int32)] M Q) ∧ (¬ (l1 / (10 : Int32)) = 0 → (((l1 / (10 : Int32)) = (1 : Int32) → G κ mX11_goes 29 [.ref 119, .int l1, .int l2, .null] [.int (2 : Int32)] M Q) ∧ (¬ (l1 / (10 : Int32)) = (1 : Int32) → G κ mX11_goes 29 [.ref 119, .int l1, .int l2, .null] [.int ((M 119 0) - (1 : Int32))] M Q))))) :
    G κ mX11_goes 0 [.ref 119, .int l1, .int l2, .null] [] M Q := by
  refine g_iload_n (i := 1) dX11_goes_0 rfl rfl ?_
  refine g_bipush (v := (10 : Int32)) dX11_goes_1 (by decide) ?_
  refine g_idiv dX11_goes_3 (by decide) ?_
  refine g_if_ne (tgt := 11) dX11_goes_4 rfl ⟨fun hc => ?_, fun hc => ?_⟩
  · replace h := h.1 hc
    refine g_iconst (v := (1 : Int32)) dX11_goes_7 (by decide) ?_
    refine g_goto (tgt := 29) dX11_goes_8 rfl ?_
    exact h
  · replace h := h.2 hc
    refine g_iload_n (i := 1) dX11_goes_11 rfl rfl ?_
    refine g_bipush (v := (10 : Int32)) dX11_goes_12 (by decide) ?_
    refine g_idiv dX11_goes_14 (by decide) ?_
    refine g_iconst (v := (1 : Int32)) dX11_goes_15 (by decide) ?_
    refine g_icmp_ne (tgt := 23) dX11_goes_16 rfl ⟨fun hc => ?_, fun hc => ?_⟩
    · replace h := h.1 hc
      refine g_iconst (v := (2 : Int32)) dX11_goes_19 (by decide) ?_
      refine g_goto (tgt := 29) dX11_goes_20 rfl ?_
      exact h
    · replace h := h.2 hc
      refine g_aload_n (i := 0) dX11_goes_23 rfl rfl ?_
      refine gf_RX11_67 rfl dX11_goes_24 sh_119 ?_
      refine g_iconst (v := (1 : Int32)) dX11_goes_27 (by decide) ?_
      refine g_isub dX11_goes_28 ?_
      exact h
theorem bX11_goes_29 {κ : gK} {M : MM} {Q : Int32 → MM → Prop} (l1 : Int32) (l2 : Int32) (s0 : Int32)
    (h : (((irm l1 (10 : Int32)) < l2 → G κ mX11_goes 48 [.null, .null, .null, .null] [.int (0 : Int32)] M Q) ∧ (¬ (irm l1 (10 : Int32)) < l2 → (¬ (M 119 0) = 0) ∧ (G κ mX11_goes 48 [.null, .null, .null, .null] [.int (irm s0 (M 119 0))] M Q)))) :
    G κ mX11_goes 29 [.ref 119, .int l1, .int l2, .null] [.int s0] M Q := by
  refine g_istore_n (i := 3) (L' := [.ref 119, .int l1, .int l2, .int s0]) dX11_goes_29 rfl (Nat.le_of_ble_eq_true rfl) rfl rfl ?_
  refine g_iload_n (i := 1) dX11_goes_30 rfl rfl ?_
  refine g_bipush (v := (10 : Int32)) dX11_goes_31 (by decide) ?_
  refine g_irem dX11_goes_33 (by decide) ?_
  refine g_iload_n (i := 2) dX11_goes_34 rfl rfl ?_
  refine g_icmp_lt (tgt := 47) dX11_goes_35 rfl ⟨fun hc => ?_, fun hc => ?_⟩
  · replace h := h.1 hc
    refine g_iconst (v := (0 : Int32)) dX11_goes_47 (by decide) ?_
    exact g_sub _ (sub_c (Or.inl rfl) (sub_c (Or.inl rfl) (sub_c (Or.inl rfl) (sub_c (Or.inl rfl) sub_n)))) h
  · replace h := h.2 hc
    refine g_iload_n (i := 3) dX11_goes_38 rfl rfl ?_
    refine g_aload_n (i := 0) dX11_goes_39 rfl rfl ?_
    refine gf_RX11_67 rfl dX11_goes_40 sh_119 ?_
    have hv1 := h.1; replace h := h.2
    refine g_irem dX11_goes_43 hv1 ?_
    refine g_goto (tgt := 48) dX11_goes_44 rfl ?_
    exact g_sub _ (sub_c (Or.inl rfl) (sub_c (Or.inl rfl) (sub_c (Or.inl rfl) (sub_c (Or.inl rfl) sub_n)))) h
theorem bX11_goes_48 {κ : gK} {M : MM} {Q : Int32 → MM → Prop} (s0 : Int32)
    (h : Q s0 M) :
    G κ mX11_goes 48 [.null, .null, .null, .null] [.int s0] M Q := by
  exact g_iret dX11_goes_48 rfl h
theorem eX11_goes {κ : gK} {M : MM} {Q : Int32 → MM → Prop} (l1 : Int32) (l2 : Int32)
    (h : G κ mX11_goes 0 [.ref 119, .int l1, .int l2, .null] [] M Q) : Cl κ mX11_goes [.ref 119, .int l1, .int l2] M Q := g_entry 1 pl_X11_goes (Nat.le_of_ble_eq_true rfl) (L := [.ref 119, .int l1, .int l2, .null]) rfl (g_sub _ (sub_c (Or.inr rfl) (sub_c (Or.inr rfl) (sub_c (Or.inr rfl) (sub_c (Or.inr rfl) sub_n)))) h)
theorem dX11_isSo_0 : decode cX11_isSo 0 = .ok (.iload_n 1, 1) := by decide +kernel
theorem dX11_isSo_1 : decode cX11_isSo 1 = .ok (.bipush 10, 2) := by decide +kernel
theorem dX11_isSo_3 : decode cX11_isSo 3 = .ok (.idiv, 1) := by decide +kernel
theorem dX11_isSo_4 : decode cX11_isSo 4 = .ok (.iconst 2, 1) := by decide +kernel
theorem dX11_isSo_5 : decode cX11_isSo 5 = .ok (.if_icmp .eq 7, 3) := by decide +kernel
theorem dX11_isSo_8 : decode cX11_isSo 8 = .ok (.iconst 1, 1) := by decide +kernel
theorem dX11_isSo_9 : decode cX11_isSo 9 = .ok (.goto 4, 3) := by decide +kernel
theorem dX11_isSo_12 : decode cX11_isSo 12 = .ok (.iconst 0, 1) := by decide +kernel
theorem dX11_isSo_13 : decode cX11_isSo 13 = .ok (.istore_n 2, 1) := by decide +kernel
theorem dX11_isSo_14 : decode cX11_isSo 14 = .ok (.iconst 0, 1) := by decide +kernel
theorem dX11_isSo_15 : decode cX11_isSo 15 = .ok (.istore_n 3, 1) := by decide +kernel
theorem dX11_isSo_16 : decode cX11_isSo 16 = .ok (.iload_n 3, 1) := by decide +kernel
theorem dX11_isSo_17 : decode cX11_isSo 17 = .ok (.aload_n 0, 1) := by decide +kernel
theorem dX11_isSo_18 : decode cX11_isSo 18 = .ok (.getfield 167, 3) := by decide +kernel
theorem dX11_isSo_21 : decode cX11_isSo 21 = .ok (.if_icmp .ge 45, 3) := by decide +kernel
theorem dX11_isSo_24 : decode cX11_isSo 24 = .ok (.iload_n 2, 1) := by decide +kernel
theorem dX11_isSo_25 : decode cX11_isSo 25 = .ok (.ifCond .eq 33, 3) := by decide +kernel
theorem dX11_isSo_28 : decode cX11_isSo 28 = .ok (.aload_n 0, 1) := by decide +kernel
theorem dX11_isSo_29 : decode cX11_isSo 29 = .ok (.iload_n 1, 1) := by decide +kernel
theorem dX11_isSo_30 : decode cX11_isSo 30 = .ok (.aload_n 0, 1) := by decide +kernel
theorem dX11_isSo_31 : decode cX11_isSo 31 = .ok (.getfield 41, 3) := by decide +kernel
theorem dX11_isSo_34 : decode cX11_isSo 34 = .ok (.iconst 2, 1) := by decide +kernel
theorem dX11_isSo_35 : decode cX11_isSo 35 = .ok (.iload_n 3, 1) := by decide +kernel
theorem dX11_isSo_36 : decode cX11_isSo 36 = .ok (.imul, 1) := by decide +kernel
theorem dX11_isSo_37 : decode cX11_isSo 37 = .ok (.iaload, 1) := by decide +kernel
theorem dX11_isSo_38 : decode cX11_isSo 38 = .ok (.invokevirtual 264, 3) := by decide +kernel
theorem dX11_isSo_41 : decode cX11_isSo 41 = .ok (.aload_n 0, 1) := by decide +kernel
theorem dX11_isSo_42 : decode cX11_isSo 42 = .ok (.getfield 41, 3) := by decide +kernel
theorem dX11_isSo_45 : decode cX11_isSo 45 = .ok (.iconst 2, 1) := by decide +kernel
theorem dX11_isSo_46 : decode cX11_isSo 46 = .ok (.iload_n 3, 1) := by decide +kernel
theorem dX11_isSo_47 : decode cX11_isSo 47 = .ok (.imul, 1) := by decide +kernel
theorem dX11_isSo_48 : decode cX11_isSo 48 = .ok (.iconst 1, 1) := by decide +kernel
theorem dX11_isSo_49 : decode cX11_isSo 49 = .ok (.iadd, 1) := by decide +kernel
theorem dX11_isSo_50 : decode cX11_isSo 50 = .ok (.iaload, 1) := by decide +kernel
theorem dX11_isSo_51 : decode cX11_isSo 51 = .ok (.if_icmp .ne 7, 3) := by decide +kernel
theorem dX11_isSo_54 : decode cX11_isSo 54 = .ok (.iconst 1, 1) := by decide +kernel
theorem dX11_isSo_55 : decode cX11_isSo 55 = .ok (.goto 4, 3) := by decide +kernel
theorem dX11_isSo_58 : decode cX11_isSo 58 = .ok (.iconst 0, 1) := by decide +kernel
theorem dX11_isSo_59 : decode cX11_isSo 59 = .ok (.istore_n 2, 1) := by decide +kernel
theorem dX11_isSo_60 : decode cX11_isSo 60 = .ok (.iinc 3 1, 3) := by decide +kernel
theorem dX11_isSo_63 : decode cX11_isSo 63 = .ok (.goto (-47), 3) := by decide +kernel
theorem dX11_isSo_66 : decode cX11_isSo 66 = .ok (.iload_n 2, 1) := by decide +kernel
theorem dX11_isSo_67 : decode cX11_isSo 67 = .ok (.ireturn, 1) := by decide +kernel
theorem bX11_isSo_0 {κ : gK} {M : MM} {Q : Int32 → MM → Prop} (l1 : Int32)
    (h : (((l1 / (10 : Int32)) = (2 : Int32) → G κ mX11_isSo 13 [.ref 119, .int l1, .null, .null] [.int (0 : Int32)] M Q) ∧ (¬ (l1 / (10 : Int32)) = (2 : Int32) → G κ mX11_isSo 13 [.ref 119, .int l1, .null, .null] [.int (1 : Int32)] M Q))) :
    G κ mX11_isSo 0 [.ref 119, .int l1, .null, .null] [] M Q := by
  refine g_iload_n (i := 1) dX11_isSo_0 rfl rfl ?_
  refine g_bipush (v := (10 : Int32)) dX11_isSo_1 (by decide) ?_
  refine g_idiv dX11_isSo_3 (by decide) ?_
  refine g_iconst (v := (2 : Int32)) dX11_isSo_4 (by decide) ?_
  refine g_icmp_eq (tgt := 12) dX11_isSo_5 rfl ⟨fun hc => ?_, fun hc => ?_⟩
  · replace h := h.1 hc
    refine g_iconst (v := (0 : Int32)) dX11_isSo_12 (by decide) ?_
    exact h
  · replace h := h.2 hc
    refine g_iconst (v := (1 : Int32)) dX11_isSo_8 (by decide) ?_
    refine g_goto (tgt := 13) dX11_isSo_9 rfl ?_
    exact h
theorem bX11_isSo_13 {κ : gK} {M : MM} {Q : Int32 → MM → Prop} (l1 : Int32) (s0 : Int32)
    (h : G κ mX11_isSo 16 [.ref 119, .int l1, .int s0, .int (0 : Int32)] [] M Q) :
    G κ mX11_isSo 13 [.ref 119, .int l1, .null, .null] [.int s0] M Q := by
  refine g_istore_n (i := 2) (L' := [.ref 119, .int l1, .int s0, .null]) dX11_isSo_13 rfl (Nat.le_of_ble_eq_true rfl) rfl rfl ?_
  refine g_iconst (v := (0 : Int32)) dX11_isSo_14 (by decide) ?_
  refine g_istore_n (i := 3) (L' := [.ref 119, .int l1, .int s0, .int (0 : Int32)]) dX11_isSo_15 rfl (Nat.le_of_ble_eq_true rfl) rfl rfl ?_
  exact h
theorem bX11_isSo_16 {κ : gK} {M : MM} {Q : Int32 → MM → Prop} (l1 : Int32) (l2 : Int32) (l3 : Int32)
    (h : (((M 119 24) ≤ l3 → (isB l2 ∧ Q l2 M)) ∧ (¬ (M 119 24) ≤ l3 → ((l2 = 0 → G κ mX11_isSo 58 [.ref 119, .int l1, .null, .int l3] [] M Q) ∧ (¬ l2 = 0 → (vp_in ((2 : Int32) * l3) 12) ∧ (Cl κ mX11_goes [.ref 119, .int l1, .int (M 129 (((2 : Int32) * l3)).toNatClampNeg)] M (fun r1 M1 => (vp_in (((2 : Int32) * l3) + (1 : Int32)) 12) ∧ (((r1 = (M1 129 ((((2 : Int32) * l3) + (1 : Int32))).toNatClampNeg) → G κ mX11_isSo 59 [.ref 119, .int l1, .null, .int l3] [.int (1 : Int32)] M1 Q) ∧ (¬ r1 = (M1 129 ((((2 : Int32) * l3) + (1 : Int32))).toNatClampNeg) → G κ mX11_isSo 58 [.ref 119, .int l1, .null, .int l3] [] M1 Q)))))))))) :
    G κ mX11_isSo 16 [.ref 119, .int l1, .int l2, .int l3] [] M Q := by
  refine g_iload_n (i := 3) dX11_isSo_16 rfl rfl ?_
  refine g_aload_n (i := 0) dX11_isSo_17 rfl rfl ?_
  refine gf_RX11_167 rfl dX11_isSo_18 sh_119 ?_
  refine g_icmp_ge (tgt := 66) dX11_isSo_21 rfl ⟨fun hc => ?_, fun hc => ?_⟩
  · replace h := h.1 hc
    refine g_iload_n (i := 2) dX11_isSo_66 rfl rfl ?_
    exact g_zret dX11_isSo_67 rfl (isB_n h.1) h.2
  · replace h := h.2 hc
    refine g_iload_n (i := 2) dX11_isSo_24 rfl rfl ?_
    refine g_if_eq (tgt := 58) dX11_isSo_25 rfl ⟨fun hc => ?_, fun hc => ?_⟩
    · replace h := h.1 hc
      exact g_sub _ (sub_c (Or.inr rfl) (sub_c (Or.inr rfl) (sub_c (Or.inl rfl) (sub_c (Or.inr rfl) sub_n)))) h
    · replace h := h.2 hc
      refine g_aload_n (i := 0) dX11_isSo_28 rfl rfl ?_
      refine g_iload_n (i := 1) dX11_isSo_29 rfl rfl ?_
      refine g_aload_n (i := 0) dX11_isSo_30 rfl rfl ?_
      refine gf_RX11_41 rfl dX11_isSo_31 sh_119 ?_
      refine g_iconst (v := (2 : Int32)) dX11_isSo_34 (by decide) ?_
      refine g_iload_n (i := 3) dX11_isSo_35 rfl rfl ?_
      refine g_imul dX11_isSo_36 ?_
      have hv1 := h.1; replace h := h.2
      refine g_iald dX11_isSo_37 sh_129 hv1 ?_
      refine gc_RX11_264 rfl (Nat.le_of_ble_eq_true rfl) dX11_isSo_38 sh_119 (Nat.le_of_ble_eq_true rfl) ?_
      refine Cl.mono h (fun r1 M1 h => ?_)
      refine g_aload_n (i := 0) dX11_isSo_41 rfl rfl ?_
      refine gf_RX11_41 rfl dX11_isSo_42 sh_119 ?_
      refine g_iconst (v := (2 : Int32)) dX11_isSo_45 (by decide) ?_
      refine g_iload_n (i := 3) dX11_isSo_46 rfl rfl ?_
      refine g_imul dX11_isSo_47 ?_
      refine g_iconst (v := (1 : Int32)) dX11_isSo_48 (by decide) ?_
      refine g_iadd dX11_isSo_49 ?_
      have hv2 := h.1; replace h := h.2
      refine g_iald dX11_isSo_50 sh_129 hv2 ?_
      refine g_icmp_ne (tgt := 58) dX11_isSo_51 rfl ⟨fun hc => ?_, fun hc => ?_⟩
      · replace h := h.1 hc
        refine g_iconst (v := (1 : Int32)) dX11_isSo_54 (by decide) ?_
        refine g_goto (tgt := 59) dX11_isSo_55 rfl ?_
        exact g_sub _ (sub_c (Or.inr rfl) (sub_c (Or.inr rfl) (sub_c (Or.inl rfl) (sub_c (Or.inr rfl) sub_n)))) h
      · replace h := h.2 hc
        exact g_sub _ (sub_c (Or.inr rfl) (sub_c (Or.inr rfl) (sub_c (Or.inl rfl) (sub_c (Or.inr rfl) sub_n)))) h
theorem bX11_isSo_58 {κ : gK} {M : MM} {Q : Int32 → MM → Prop} (l1 : Int32) (l3 : Int32)
    (h : G κ mX11_isSo 59 [.ref 119, .int l1, .null, .int l3] [.int (0 : Int32)] M Q) :
    G κ mX11_isSo 58 [.ref 119, .int l1, .null, .int l3] [] M Q := by
  refine g_iconst (v := (0 : Int32)) dX11_isSo_58 (by decide) ?_
  exact h
theorem bX11_isSo_59 {κ : gK} {M : MM} {Q : Int32 → MM → Prop} (l1 : Int32) (l3 : Int32) (s0 : Int32)
    (h : G κ mX11_isSo 16 [.ref 119, .int l1, .int s0, .int (l3 + 1)] [] M Q) :
    G κ mX11_isSo 59 [.ref 119, .int l1, .null, .int l3] [.int s0] M Q := by
  refine g_istore_n (i := 2) (L' := [.ref 119, .int l1, .int s0, .int l3]) dX11_isSo_59 rfl (Nat.le_of_ble_eq_true rfl) rfl rfl ?_
  refine g_iinc (v := (l3 + 1)) (L' := [.ref 119, .int l1, .int s0, .int (l3 + 1)]) dX11_isSo_60 rfl rfl (Nat.le_of_ble_eq_true rfl) rfl rfl ?_
  refine g_goto (tgt := 16) dX11_isSo_63 rfl ?_
  exact h
theorem eX11_isSo {κ : gK} {M : MM} {Q : Int32 → MM → Prop} (l1 : Int32)
    (h : G κ mX11_isSo 0 [.ref 119, .int l1, .null, .null] [] M Q) : Cl κ mX11_isSo [.ref 119, .int l1] M Q := g_entry 2 pl_X11_isSo (Nat.le_of_ble_eq_true rfl) (L := [.ref 119, .int l1, .null, .null]) rfl (g_sub _ (sub_c (Or.inr rfl) (sub_c (Or.inr rfl) (sub_c (Or.inr rfl) (sub_c (Or.inr rfl) sub_n)))) h)
theorem dX11_watch_0 : decode cX11_watch 0 = .ok (.iconst (-1), 1) := by decide +kernel
theorem dX11_watch_1 : decode cX11_watch 1 = .ok (.istore_n 1, 1) := by decide +kernel
theorem dX11_watch_2 : decode cX11_watch 2 = .ok (.iconst 0, 1) := by decide +kernel
theorem dX11_watch_3 : decode cX11_watch 3 = .ok (.istore_n 2, 1) := by decide +kernel
theorem dX11_watch_4 : decode cX11_watch 4 = .ok (.iconst 0, 1) := by decide +kernel
theorem dX11_watch_5 : decode cX11_watch 5 = .ok (.istore_n 3, 1) := by decide +kernel
theorem dX11_watch_6 : decode cX11_watch 6 = .ok (.iload_n 3, 1) := by decide +kernel
theorem dX11_watch_7 : decode cX11_watch 7 = .ok (.bipush 40, 2) := by decide +kernel
theorem dX11_watch_9 : decode cX11_watch 9 = .ok (.if_icmp .ge 25, 3) := by decide +kernel
theorem dX11_watch_12 : decode cX11_watch 12 = .ok (.iload_n 2, 1) := by decide +kernel
theorem dX11_watch_13 : decode cX11_watch 13 = .ok (.aload_n 0, 1) := by decide +kernel
theorem dX11_watch_14 : decode cX11_watch 14 = .ok (.iload_n 3, 1) := by decide +kernel
theorem dX11_watch_15 : decode cX11_watch 15 = .ok (.invokevirtual 267, 3) := by decide +kernel
theorem dX11_watch_18 : decode cX11_watch 18 = .ok (.ifCond .eq 7, 3) := by decide +kernel
theorem dX11_watch_21 : decode cX11_watch 21 = .ok (.iconst 1, 1) := by decide +kernel
theorem dX11_watch_22 : decode cX11_watch 22 = .ok (.goto 4, 3) := by decide +kernel
theorem dX11_watch_25 : decode cX11_watch 25 = .ok (.iconst 0, 1) := by decide +kernel
theorem dX11_watch_26 : decode cX11_watch 26 = .ok (.iadd, 1) := by decide +kernel
theorem dX11_watch_27 : decode cX11_watch 27 = .ok (.istore_n 2, 1) := by decide +kernel
theorem dX11_watch_28 : decode cX11_watch 28 = .ok (.iinc 3 1, 3) := by decide +kernel
theorem dX11_watch_31 : decode cX11_watch 31 = .ok (.goto (-25), 3) := by decide +kernel
theorem dX11_watch_34 : decode cX11_watch 34 = .ok (.iload_n 2, 1) := by decide +kernel
theorem dX11_watch_35 : decode cX11_watch 35 = .ok (.istore_n 3, 1) := by decide +kernel
theorem dX11_watch_36 : decode cX11_watch 36 = .ok (.iconst 1, 1) := by decide +kernel
theorem dX11_watch_37 : decode cX11_watch 37 = .ok (.istore 4, 2) := by decide +kernel
theorem dX11_watch_39 : decode cX11_watch 39 = .ok (.iload 4, 2) := by decide +kernel
theorem dX11_watch_41 : decode cX11_watch 41 = .ok (.bipush 10, 2) := by decide +kernel
theorem dX11_watch_43 : decode cX11_watch 43 = .ok (.if_icmp .ge 123, 3) := by decide +kernel
theorem dX11_watch_46 : decode cX11_watch 46 = .ok (.iconst 0, 1) := by decide +kernel
theorem dX11_watch_47 : decode cX11_watch 47 = .ok (.istore 5, 2) := by decide +kernel
theorem dX11_watch_49 : decode cX11_watch 49 = .ok (.iconst 0, 1) := by decide +kernel
theorem dX11_watch_50 : decode cX11_watch 50 = .ok (.istore 6, 2) := by decide +kernel
theorem dX11_watch_52 : decode cX11_watch 52 = .ok (.iload 6, 2) := by decide +kernel
theorem dX11_watch_54 : decode cX11_watch 54 = .ok (.aload_n 0, 1) := by decide +kernel
theorem dX11_watch_55 : decode cX11_watch 55 = .ok (.getfield 67, 3) := by decide +kernel
theorem dX11_watch_58 : decode cX11_watch 58 = .ok (.if_icmp .ge 76, 3) := by decide +kernel
theorem dX11_watch_61 : decode cX11_watch 61 = .ok (.iconst 0, 1) := by decide +kernel
theorem dX11_watch_62 : decode cX11_watch 62 = .ok (.istore 7, 2) := by decide +kernel
theorem dX11_watch_64 : decode cX11_watch 64 = .ok (.iconst 0, 1) := by decide +kernel
theorem dX11_watch_65 : decode cX11_watch 65 = .ok (.istore 8, 2) := by decide +kernel
theorem dX11_watch_67 : decode cX11_watch 67 = .ok (.iload 8, 2) := by decide +kernel
theorem dX11_watch_69 : decode cX11_watch 69 = .ok (.bipush 40, 2) := by decide +kernel
theorem dX11_watch_71 : decode cX11_watch 71 = .ok (.if_icmp .ge 41, 3) := by decide +kernel
theorem dX11_watch_74 : decode cX11_watch 74 = .ok (.iload 7, 2) := by decide +kernel
theorem dX11_watch_76 : decode cX11_watch 76 = .ok (.aload_n 0, 1) := by decide +kernel
theorem dX11_watch_77 : decode cX11_watch 77 = .ok (.iload 8, 2) := by decide +kernel
theorem dX11_watch_79 : decode cX11_watch 79 = .ok (.invokevirtual 267, 3) := by decide +kernel
theorem dX11_watch_82 : decode cX11_watch 82 = .ok (.ifCond .eq 20, 3) := by decide +kernel
theorem dX11_watch_85 : decode cX11_watch 85 = .ok (.aload_n 0, 1) := by decide +kernel
theorem dX11_watch_86 : decode cX11_watch 86 = .ok (.iload 8, 2) := by decide +kernel
theorem dX11_watch_88 : decode cX11_watch 88 = .ok (.iload 4, 2) := by decide +kernel
theorem dX11_watch_90 : decode cX11_watch 90 = .ok (.invokevirtual 264, 3) := by decide +kernel
theorem dX11_watch_93 : decode cX11_watch 93 = .ok (.iload 6, 2) := by decide +kernel
theorem dX11_watch_95 : decode cX11_watch 95 = .ok (.if_icmp .ne 7, 3) := by decide +kernel
theorem dX11_watch_98 : decode cX11_watch 98 = .ok (.iconst 1, 1) := by decide +kernel
theorem dX11_watch_99 : decode cX11_watch 99 = .ok (.goto 4, 3) := by decide +kernel
theorem dX11_watch_102 : decode cX11_watch 102 = .ok (.iconst 0, 1) := by decide +kernel
theorem dX11_watch_103 : decode cX11_watch 103 = .ok (.iadd, 1) := by decide +kernel
theorem dX11_watch_104 : decode cX11_watch 104 = .ok (.istore 7, 2) := by decide +kernel
theorem dX11_watch_106 : decode cX11_watch 106 = .ok (.iinc 8 1, 3) := by decide +kernel
theorem dX11_watch_109 : decode cX11_watch 109 = .ok (.goto (-42), 3) := by decide +kernel
theorem dX11_watch_112 : decode cX11_watch 112 = .ok (.iload 7, 2) := by decide +kernel
theorem dX11_watch_114 : decode cX11_watch 114 = .ok (.iload 5, 2) := by decide +kernel
theorem dX11_watch_116 : decode cX11_watch 116 = .ok (.if_icmp .le 8, 3) := by decide +kernel
theorem dX11_watch_119 : decode cX11_watch 119 = .ok (.iload 7, 2) := by decide +kernel
theorem dX11_watch_121 : decode cX11_watch 121 = .ok (.goto 5, 3) := by decide +kernel
theorem dX11_watch_124 : decode cX11_watch 124 = .ok (.iload 5, 2) := by decide +kernel
theorem dX11_watch_126 : decode cX11_watch 126 = .ok (.istore 5, 2) := by decide +kernel
theorem dX11_watch_128 : decode cX11_watch 128 = .ok (.iinc 6 1, 3) := by decide +kernel
theorem dX11_watch_131 : decode cX11_watch 131 = .ok (.goto (-79), 3) := by decide +kernel
theorem dX11_watch_134 : decode cX11_watch 134 = .ok (.iload 5, 2) := by decide +kernel
theorem dX11_watch_136 : decode cX11_watch 136 = .ok (.iload_n 3, 1) := by decide +kernel
theorem dX11_watch_137 : decode cX11_watch 137 = .ok (.if_icmp .ge 8, 3) := by decide +kernel
theorem dX11_watch_140 : decode cX11_watch 140 = .ok (.iload 4, 2) := by decide +kernel
theorem dX11_watch_142 : decode cX11_watch 142 = .ok (.goto 4, 3) := by decide +kernel
theorem dX11_watch_145 : decode cX11_watch 145 = .ok (.iload_n 1, 1) := by decide +kernel
theorem dX11_watch_146 : decode cX11_watch 146 = .ok (.istore_n 1, 1) := by decide +kernel
theorem dX11_watch_147 : decode cX11_watch 147 = .ok (.iload 5, 2) := by decide +kernel
theorem dX11_watch_149 : decode cX11_watch 149 = .ok (.iload_n 3, 1) := by decide +kernel
theorem dX11_watch_150 : decode cX11_watch 150 = .ok (.if_icmp .ge 8, 3) := by decide +kernel
theorem dX11_watch_153 : decode cX11_watch 153 = .ok (.iload 5, 2) := by decide +kernel
theorem dX11_watch_155 : decode cX11_watch 155 = .ok (.goto 4, 3) := by decide +kernel
theorem dX11_watch_158 : decode cX11_watch 158 = .ok (.iload_n 3, 1) := by decide +kernel
theorem dX11_watch_159 : decode cX11_watch 159 = .ok (.istore_n 3, 1) := by decide +kernel
theorem dX11_watch_160 : decode cX11_watch 160 = .ok (.iinc 4 1, 3) := by decide +kernel
theorem dX11_watch_163 : decode cX11_watch 163 = .ok (.goto (-124), 3) := by decide +kernel
theorem dX11_watch_166 : decode cX11_watch 166 = .ok (.iload_n 1, 1) := by decide +kernel
theorem dX11_watch_167 : decode cX11_watch 167 = .ok (.ireturn, 1) := by decide +kernel
theorem bX11_watch_0 {κ : gK} {M : MM} {Q : Int32 → MM → Prop} 
    (h : G κ mX11_watch 6 [.ref 119, .int (-1 : Int32), .int (0 : Int32), .int (0 : Int32), .null, .null, .null, .null, .null] [] M Q) :
    G κ mX11_watch 0 [.ref 119, .null, .null, .null, .null, .null, .null, .null, .null] [] M Q := by
  refine g_iconst (v := (-1 : Int32)) dX11_watch_0 (by decide) ?_
  refine g_istore_n (i := 1) (L' := [.ref 119, .int (-1 : Int32), .null, .null, .null, .null, .null, .null, .null]) dX11_watch_1 rfl (Nat.le_of_ble_eq_true rfl) rfl rfl ?_
  refine g_iconst (v := (0 : Int32)) dX11_watch_2 (by decide) ?_
  refine g_istore_n (i := 2) (L' := [.ref 119, .int (-1 : Int32), .int (0 : Int32), .null, .null, .null, .null, .null, .null]) dX11_watch_3 rfl (Nat.le_of_ble_eq_true rfl) rfl rfl ?_
  refine g_iconst (v := (0 : Int32)) dX11_watch_4 (by decide) ?_
  refine g_istore_n (i := 3) (L' := [.ref 119, .int (-1 : Int32), .int (0 : Int32), .int (0 : Int32), .null, .null, .null, .null, .null]) dX11_watch_5 rfl (Nat.le_of_ble_eq_true rfl) rfl rfl ?_
  exact h
theorem bX11_watch_6 {κ : gK} {M : MM} {Q : Int32 → MM → Prop} (l1 : Int32) (l2 : Int32) (l3 : Int32)
    (h : (((40 : Int32) ≤ l3 → G κ mX11_watch 39 [.ref 119, .int l1, .null, .int l2, .int (1 : Int32), .null, .null, .null, .null] [] M Q) ∧ (¬ (40 : Int32) ≤ l3 → Cl κ mX11_isSo [.ref 119, .int l3] M (fun r1 M1 => ((r1 = 0 → G κ mX11_watch 26 [.ref 119, .int l1, .null, .int l3, .null, .null, .null, .null, .null] [.int (0 : Int32), .int l2] M1 Q) ∧ (¬ r1 = 0 → G κ mX11_watch 26 [.ref 119, .int l1, .null, .int l3, .null, .null, .null, .null, .null] [.int (1 : Int32), .int l2] M1 Q)))))) :
    G κ mX11_watch 6 [.ref 119, .int l1, .int l2, .int l3, .null, .null, .null, .null, .null] [] M Q := by
  refine g_iload_n (i := 3) dX11_watch_6 rfl rfl ?_
  refine g_bipush (v := (40 : Int32)) dX11_watch_7 (by decide) ?_
  refine g_icmp_ge (tgt := 34) dX11_watch_9 rfl ⟨fun hc => ?_, fun hc => ?_⟩
  · replace h := h.1 hc
    refine g_iload_n (i := 2) dX11_watch_34 rfl rfl ?_
    refine g_istore_n (i := 3) (L' := [.ref 119, .int l1, .int l2, .int l2, .null, .null, .null, .null, .null]) dX11_watch_35 rfl (Nat.le_of_ble_eq_true rfl) rfl rfl ?_
    refine g_iconst (v := (1 : Int32)) dX11_watch_36 (by decide) ?_
    refine g_istore (i := 4) (L' := [.ref 119, .int l1, .int l2, .int l2, .int (1 : Int32), .null, .null, .null, .null]) dX11_watch_37 (Nat.le_of_ble_eq_true rfl) rfl rfl ?_
    exact g_sub _ (sub_c (Or.inr rfl) (sub_c (Or.inr rfl) (sub_c (Or.inl rfl) (sub_c (Or.inr rfl) (sub_c (Or.inr rfl) (sub_c (Or.inr rfl) (sub_c (Or.inr rfl) (sub_c (Or.inr rfl) (sub_c (Or.inr rfl) sub_n))))))))) h
  · replace h := h.2 hc
    refine g_iload_n (i := 2) dX11_watch_12 rfl rfl ?_
    refine g_aload_n (i := 0) dX11_watch_13 rfl rfl ?_
    refine g_iload_n (i := 3) dX11_watch_14 rfl rfl ?_
    refine gc_RX11_267 rfl (Nat.le_of_ble_eq_true rfl) dX11_watch_15 sh_119 (Nat.le_of_ble_eq_true rfl) ?_
    refine Cl.mono h (fun r1 M1 h => ?_)
    refine g_if_eq (tgt := 25) dX11_watch_18 rfl ⟨fun hc => ?_, fun hc => ?_⟩
    · replace h := h.1 hc
      refine g_iconst (v := (0 : Int32)) dX11_watch_25 (by decide) ?_
      exact g_sub _ (sub_c (Or.inr rfl) (sub_c (Or.inr rfl) (sub_c (Or.inl rfl) (sub_c (Or.inr rfl) (sub_c (Or.inr rfl) (sub_c (Or.inr rfl) (sub_c (Or.inr rfl) (sub_c (Or.inr rfl) (sub_c (Or.inr rfl) sub_n))))))))) h
    · replace h := h.2 hc
      refine g_iconst (v := (1 : Int32)) dX11_watch_21 (by decide) ?_
      refine g_goto (tgt := 26) dX11_watch_22 rfl ?_
      exact g_sub _ (sub_c (Or.inr rfl) (sub_c (Or.inr rfl) (sub_c (Or.inl rfl) (sub_c (Or.inr rfl) (sub_c (Or.inr rfl) (sub_c (Or.inr rfl) (sub_c (Or.inr rfl) (sub_c (Or.inr rfl) (sub_c (Or.inr rfl) sub_n))))))))) h
theorem bX11_watch_26 {κ : gK} {M : MM} {Q : Int32 → MM → Prop} (l1 : Int32) (l3 : Int32) (s0 : Int32) (s1 : Int32)
    (h : G κ mX11_watch 6 [.ref 119, .int l1, .int (s1 + s0), .int (l3 + 1), .null, .null, .null, .null, .null] [] M Q) :
    G κ mX11_watch 26 [.ref 119, .int l1, .null, .int l3, .null, .null, .null, .null, .null] [.int s0, .int s1] M Q := by
  refine g_iadd dX11_watch_26 ?_
  refine g_istore_n (i := 2) (L' := [.ref 119, .int l1, .int (s1 + s0), .int l3, .null, .null, .null, .null, .null]) dX11_watch_27 rfl (Nat.le_of_ble_eq_true rfl) rfl rfl ?_
  refine g_iinc (v := (l3 + 1)) (L' := [.ref 119, .int l1, .int (s1 + s0), .int (l3 + 1), .null, .null, .null, .null, .null]) dX11_watch_28 rfl rfl (Nat.le_of_ble_eq_true rfl) rfl rfl ?_
  refine g_goto (tgt := 6) dX11_watch_31 rfl ?_
  exact h
theorem bX11_watch_39 {κ : gK} {M : MM} {Q : Int32 → MM → Prop} (l1 : Int32) (l3 : Int32) (l4 : Int32)
    (h : (((10 : Int32) ≤ l4 → Q l1 M) ∧ (¬ (10 : Int32) ≤ l4 → G κ mX11_watch 52 [.ref 119, .int l1, .null, .int l3, .int l4, .int (0 : Int32), .int (0 : Int32), .null, .null] [] M Q))) :
    G κ mX11_watch 39 [.ref 119, .int l1, .null, .int l3, .int l4, .null, .null, .null, .null] [] M Q := by
  refine g_iload (i := 4) dX11_watch_39 rfl ?_
  refine g_bipush (v := (10 : Int32)) dX11_watch_41 (by decide) ?_
  refine g_icmp_ge (tgt := 166) dX11_watch_43 rfl ⟨fun hc => ?_, fun hc => ?_⟩
  · replace h := h.1 hc
    refine g_iload_n (i := 1) dX11_watch_166 rfl rfl ?_
    exact g_iret dX11_watch_167 rfl h
  · replace h := h.2 hc
    refine g_iconst (v := (0 : Int32)) dX11_watch_46 (by decide) ?_
    refine g_istore (i := 5) (L' := [.ref 119, .int l1, .null, .int l3, .int l4, .int (0 : Int32), .null, .null, .null]) dX11_watch_47 (Nat.le_of_ble_eq_true rfl) rfl rfl ?_
    refine g_iconst (v := (0 : Int32)) dX11_watch_49 (by decide) ?_
    refine g_istore (i := 6) (L' := [.ref 119, .int l1, .null, .int l3, .int l4, .int (0 : Int32), .int (0 : Int32), .null, .null]) dX11_watch_50 (Nat.le_of_ble_eq_true rfl) rfl rfl ?_
    exact h
theorem bX11_watch_52 {κ : gK} {M : MM} {Q : Int32 → MM → Prop} (l1 : Int32) (l3 : Int32) (l4 : Int32) (l5 : Int32) (l6 : Int32)
    (h : (((M 119 0) ≤ l6 → ((l3 ≤ l5 → G κ mX11_watch 146 [.ref 119, .null, .null, .int l3, .int l4, .int l5, .null, .null, .null] [.int l1] M Q) ∧ (¬ l3 ≤ l5 → G κ mX11_watch 146 [.ref 119, .null, .null, .int l3, .int l4, .int l5, .null, .null, .null] [.int l4] M Q))) ∧ (¬ (M 119 0) ≤ l6 → G κ mX11_watch 67 [.ref 119, .int l1, .null, .int l3, .int l4, .int l5, .int l6, .int (0 : Int32), .int (0 : Int32)] [] M Q))) :
    G κ mX11_watch 52 [.ref 119, .int l1, .null, .int l3, .int l4, .int l5, .int l6, .null, .null] [] M Q := by
  refine g_iload (i := 6) dX11_watch_52 rfl ?_
  refine g_aload_n (i := 0) dX11_watch_54 rfl rfl ?_
  refine gf_RX11_67 rfl dX11_watch_55 sh_119 ?_
  refine g_icmp_ge (tgt := 134) dX11_watch_58 rfl ⟨fun hc => ?_, fun hc => ?_⟩
  · replace h := h.1 hc
    refine g_iload (i := 5) dX11_watch_134 rfl ?_
    refine g_iload_n (i := 3) dX11_watch_136 rfl rfl ?_
    refine g_icmp_ge (tgt := 145) dX11_watch_137 rfl ⟨fun hc => ?_, fun hc => ?_⟩
    · replace h := h.1 hc
      refine g_iload_n (i := 1) dX11_watch_145 rfl rfl ?_
      exact g_sub _ (sub_c (Or.inr rfl) (sub_c (Or.inl rfl) (sub_c (Or.inr rfl) (sub_c (Or.inr rfl) (sub_c (Or.inr rfl) (sub_c (Or.inr rfl) (sub_c (Or.inl rfl) (sub_c (Or.inr rfl) (sub_c (Or.inr rfl) sub_n))))))))) h
    · replace h := h.2 hc
      refine g_iload (i := 4) dX11_watch_140 rfl ?_
      refine g_goto (tgt := 146) dX11_watch_142 rfl ?_
      exact g_sub _ (sub_c (Or.inr rfl) (sub_c (Or.inl rfl) (sub_c (Or.inr rfl) (sub_c (Or.inr rfl) (sub_c (Or.inr rfl) (sub_c (Or.inr rfl) (sub_c (Or.inl rfl) (sub_c (Or.inr rfl) (sub_c (Or.inr rfl) sub_n))))))))) h
  · replace h := h.2 hc
    refine g_iconst (v := (0 : Int32)) dX11_watch_61 (by decide) ?_
    refine g_istore (i := 7) (L' := [.ref 119, .int l1, .null, .int l3, .int l4, .int l5, .int l6, .int (0 : Int32), .null]) dX11_watch_62 (Nat.le_of_ble_eq_true rfl) rfl rfl ?_
    refine g_iconst (v := (0 : Int32)) dX11_watch_64 (by decide) ?_
    refine g_istore (i := 8) (L' := [.ref 119, .int l1, .null, .int l3, .int l4, .int l5, .int l6, .int (0 : Int32), .int (0 : Int32)]) dX11_watch_65 (Nat.le_of_ble_eq_true rfl) rfl rfl ?_
    exact h
theorem bX11_watch_67 {κ : gK} {M : MM} {Q : Int32 → MM → Prop} (l1 : Int32) (l3 : Int32) (l4 : Int32) (l5 : Int32) (l6 : Int32) (l7 : Int32) (l8 : Int32)
    (h : (((40 : Int32) ≤ l8 → ((l7 ≤ l5 → G κ mX11_watch 126 [.ref 119, .int l1, .null, .int l3, .int l4, .null, .int l6, .null, .null] [.int l5] M Q) ∧ (¬ l7 ≤ l5 → G κ mX11_watch 126 [.ref 119, .int l1, .null, .int l3, .int l4, .null, .int l6, .null, .null] [.int l7] M Q))) ∧ (¬ (40 : Int32) ≤ l8 → Cl κ mX11_isSo [.ref 119, .int l8] M (fun r1 M1 => ((r1 = 0 → G κ mX11_watch 102 [.ref 119, .int l1, .null, .int l3, .int l4, .int l5, .int l6, .null, .int l8] [.int l7] M1 Q) ∧ (¬ r1 = 0 → Cl κ mX11_goes [.ref 119, .int l8, .int l4] M1 (fun r2 M2 => ((r2 = l6 → G κ mX11_watch 103 [.ref 119, .int l1, .null, .int l3, .int l4, .int l5, .int l6, .null, .int l8] [.int (1 : Int32), .int l7] M2 Q) ∧ (¬ r2 = l6 → G κ mX11_watch 102 [.ref 119, .int l1, .null, .int l3, .int l4, .int l5, .int l6, .null, .int l8] [.int l7] M2 Q))))))))) :
    G κ mX11_watch 67 [.ref 119, .int l1, .null, .int l3, .int l4, .int l5, .int l6, .int l7, .int l8] [] M Q := by
  refine g_iload (i := 8) dX11_watch_67 rfl ?_
  refine g_bipush (v := (40 : Int32)) dX11_watch_69 (by decide) ?_
  refine g_icmp_ge (tgt := 112) dX11_watch_71 rfl ⟨fun hc => ?_, fun hc => ?_⟩
  · replace h := h.1 hc
    refine g_iload (i := 7) dX11_watch_112 rfl ?_
    refine g_iload (i := 5) dX11_watch_114 rfl ?_
    refine g_icmp_le (tgt := 124) dX11_watch_116 rfl ⟨fun hc => ?_, fun hc => ?_⟩
    · replace h := h.1 hc
      refine g_iload (i := 5) dX11_watch_124 rfl ?_
      exact g_sub _ (sub_c (Or.inr rfl) (sub_c (Or.inr rfl) (sub_c (Or.inr rfl) (sub_c (Or.inr rfl) (sub_c (Or.inr rfl) (sub_c (Or.inl rfl) (sub_c (Or.inr rfl) (sub_c (Or.inl rfl) (sub_c (Or.inl rfl) sub_n))))))))) h
    · replace h := h.2 hc
      refine g_iload (i := 7) dX11_watch_119 rfl ?_
      refine g_goto (tgt := 126) dX11_watch_121 rfl ?_
      exact g_sub _ (sub_c (Or.inr rfl) (sub_c (Or.inr rfl) (sub_c (Or.inr rfl) (sub_c (Or.inr rfl) (sub_c (Or.inr rfl) (sub_c (Or.inl rfl) (sub_c (Or.inr rfl) (sub_c (Or.inl rfl) (sub_c (Or.inl rfl) sub_n))))))))) h
  · replace h := h.2 hc
    refine g_iload (i := 7) dX11_watch_74 rfl ?_
    refine g_aload_n (i := 0) dX11_watch_76 rfl rfl ?_
    refine g_iload (i := 8) dX11_watch_77 rfl ?_
    refine gc_RX11_267 rfl (Nat.le_of_ble_eq_true rfl) dX11_watch_79 sh_119 (Nat.le_of_ble_eq_true rfl) ?_
    refine Cl.mono h (fun r1 M1 h => ?_)
    refine g_if_eq (tgt := 102) dX11_watch_82 rfl ⟨fun hc => ?_, fun hc => ?_⟩
    · replace h := h.1 hc
      exact g_sub _ (sub_c (Or.inr rfl) (sub_c (Or.inr rfl) (sub_c (Or.inr rfl) (sub_c (Or.inr rfl) (sub_c (Or.inr rfl) (sub_c (Or.inr rfl) (sub_c (Or.inr rfl) (sub_c (Or.inl rfl) (sub_c (Or.inr rfl) sub_n))))))))) h
    · replace h := h.2 hc
      refine g_aload_n (i := 0) dX11_watch_85 rfl rfl ?_
      refine g_iload (i := 8) dX11_watch_86 rfl ?_
      refine g_iload (i := 4) dX11_watch_88 rfl ?_
      refine gc_RX11_264 rfl (Nat.le_of_ble_eq_true rfl) dX11_watch_90 sh_119 (Nat.le_of_ble_eq_true rfl) ?_
      refine Cl.mono h (fun r2 M2 h => ?_)
      refine g_iload (i := 6) dX11_watch_93 rfl ?_
      refine g_icmp_ne (tgt := 102) dX11_watch_95 rfl ⟨fun hc => ?_, fun hc => ?_⟩
      · replace h := h.1 hc
        refine g_iconst (v := (1 : Int32)) dX11_watch_98 (by decide) ?_
        refine g_goto (tgt := 103) dX11_watch_99 rfl ?_
        exact g_sub _ (sub_c (Or.inr rfl) (sub_c (Or.inr rfl) (sub_c (Or.inr rfl) (sub_c (Or.inr rfl) (sub_c (Or.inr rfl) (sub_c (Or.inr rfl) (sub_c (Or.inr rfl) (sub_c (Or.inl rfl) (sub_c (Or.inr rfl) sub_n))))))))) h
      · replace h := h.2 hc
        exact g_sub _ (sub_c (Or.inr rfl) (sub_c (Or.inr rfl) (sub_c (Or.inr rfl) (sub_c (Or.inr rfl) (sub_c (Or.inr rfl) (sub_c (Or.inr rfl) (sub_c (Or.inr rfl) (sub_c (Or.inl rfl) (sub_c (Or.inr rfl) sub_n))))))))) h
theorem bX11_watch_102 {κ : gK} {M : MM} {Q : Int32 → MM → Prop} (l1 : Int32) (l3 : Int32) (l4 : Int32) (l5 : Int32) (l6 : Int32) (l8 : Int32) (s0 : Int32)
    (h : G κ mX11_watch 103 [.ref 119, .int l1, .null, .int l3, .int l4, .int l5, .int l6, .null, .int l8] [.int (0 : Int32), .int s0] M Q) :
    G κ mX11_watch 102 [.ref 119, .int l1, .null, .int l3, .int l4, .int l5, .int l6, .null, .int l8] [.int s0] M Q := by
  refine g_iconst (v := (0 : Int32)) dX11_watch_102 (by decide) ?_
  exact h
theorem bX11_watch_103 {κ : gK} {M : MM} {Q : Int32 → MM → Prop} (l1 : Int32) (l3 : Int32) (l4 : Int32) (l5 : Int32) (l6 : Int32) (l8 : Int32) (s0 : Int32) (s1 : Int32)
    (h : G κ mX11_watch 67 [.ref 119, .int l1, .null, .int l3, .int l4, .int l5, .int l6, .int (s1 + s0), .int (l8 + 1)] [] M Q) :
    G κ mX11_watch 103 [.ref 119, .int l1, .null, .int l3, .int l4, .int l5, .int l6, .null, .int l8] [.int s0, .int s1] M Q := by
  refine g_iadd dX11_watch_103 ?_
  refine g_istore (i := 7) (L' := [.ref 119, .int l1, .null, .int l3, .int l4, .int l5, .int l6, .int (s1 + s0), .int l8]) dX11_watch_104 (Nat.le_of_ble_eq_true rfl) rfl rfl ?_
  refine g_iinc (v := (l8 + 1)) (L' := [.ref 119, .int l1, .null, .int l3, .int l4, .int l5, .int l6, .int (s1 + s0), .int (l8 + 1)]) dX11_watch_106 rfl rfl (Nat.le_of_ble_eq_true rfl) rfl rfl ?_
  refine g_goto (tgt := 67) dX11_watch_109 rfl ?_
  exact h
theorem bX11_watch_126 {κ : gK} {M : MM} {Q : Int32 → MM → Prop} (l1 : Int32) (l3 : Int32) (l4 : Int32) (l6 : Int32) (s0 : Int32)
    (h : G κ mX11_watch 52 [.ref 119, .int l1, .null, .int l3, .int l4, .int s0, .int (l6 + 1), .null, .null] [] M Q) :
    G κ mX11_watch 126 [.ref 119, .int l1, .null, .int l3, .int l4, .null, .int l6, .null, .null] [.int s0] M Q := by
  refine g_istore (i := 5) (L' := [.ref 119, .int l1, .null, .int l3, .int l4, .int s0, .int l6, .null, .null]) dX11_watch_126 (Nat.le_of_ble_eq_true rfl) rfl rfl ?_
  refine g_iinc (v := (l6 + 1)) (L' := [.ref 119, .int l1, .null, .int l3, .int l4, .int s0, .int (l6 + 1), .null, .null]) dX11_watch_128 rfl rfl (Nat.le_of_ble_eq_true rfl) rfl rfl ?_
  refine g_goto (tgt := 52) dX11_watch_131 rfl ?_
  exact h
theorem bX11_watch_146 {κ : gK} {M : MM} {Q : Int32 → MM → Prop} (l3 : Int32) (l4 : Int32) (l5 : Int32) (s0 : Int32)
    (h : ((l3 ≤ l5 → G κ mX11_watch 159 [.ref 119, .int s0, .null, .null, .int l4, .null, .null, .null, .null] [.int l3] M Q) ∧ (¬ l3 ≤ l5 → G κ mX11_watch 159 [.ref 119, .int s0, .null, .null, .int l4, .null, .null, .null, .null] [.int l5] M Q))) :
    G κ mX11_watch 146 [.ref 119, .null, .null, .int l3, .int l4, .int l5, .null, .null, .null] [.int s0] M Q := by
  refine g_istore_n (i := 1) (L' := [.ref 119, .int s0, .null, .int l3, .int l4, .int l5, .null, .null, .null]) dX11_watch_146 rfl (Nat.le_of_ble_eq_true rfl) rfl rfl ?_
  refine g_iload (i := 5) dX11_watch_147 rfl ?_
  refine g_iload_n (i := 3) dX11_watch_149 rfl rfl ?_
  refine g_icmp_ge (tgt := 158) dX11_watch_150 rfl ⟨fun hc => ?_, fun hc => ?_⟩
  · replace h := h.1 hc
    refine g_iload_n (i := 3) dX11_watch_158 rfl rfl ?_
    exact g_sub _ (sub_c (Or.inr rfl) (sub_c (Or.inr rfl) (sub_c (Or.inr rfl) (sub_c (Or.inl rfl) (sub_c (Or.inr rfl) (sub_c (Or.inl rfl) (sub_c (Or.inr rfl) (sub_c (Or.inr rfl) (sub_c (Or.inr rfl) sub_n))))))))) h
  · replace h := h.2 hc
    refine g_iload (i := 5) dX11_watch_153 rfl ?_
    refine g_goto (tgt := 159) dX11_watch_155 rfl ?_
    exact g_sub _ (sub_c (Or.inr rfl) (sub_c (Or.inr rfl) (sub_c (Or.inr rfl) (sub_c (Or.inl rfl) (sub_c (Or.inr rfl) (sub_c (Or.inl rfl) (sub_c (Or.inr rfl) (sub_c (Or.inr rfl) (sub_c (Or.inr rfl) sub_n))))))))) h
theorem bX11_watch_159 {κ : gK} {M : MM} {Q : Int32 → MM → Prop} (l1 : Int32) (l4 : Int32) (s0 : Int32)
    (h : G κ mX11_watch 39 [.ref 119, .int l1, .null, .int s0, .int (l4 + 1), .null, .null, .null, .null] [] M Q) :
    G κ mX11_watch 159 [.ref 119, .int l1, .null, .null, .int l4, .null, .null, .null, .null] [.int s0] M Q := by
  refine g_istore_n (i := 3) (L' := [.ref 119, .int l1, .null, .int s0, .int l4, .null, .null, .null, .null]) dX11_watch_159 rfl (Nat.le_of_ble_eq_true rfl) rfl rfl ?_
  refine g_iinc (v := (l4 + 1)) (L' := [.ref 119, .int l1, .null, .int s0, .int (l4 + 1), .null, .null, .null, .null]) dX11_watch_160 rfl rfl (Nat.le_of_ble_eq_true rfl) rfl rfl ?_
  refine g_goto (tgt := 39) dX11_watch_163 rfl ?_
  exact h
theorem eX11_watch {κ : gK} {M : MM} {Q : Int32 → MM → Prop} 
    (h : G κ mX11_watch 0 [.ref 119, .null, .null, .null, .null, .null, .null, .null, .null] [] M Q) : Cl κ mX11_watch [.ref 119] M Q := g_entry 8 pl_X11_watch (Nat.le_of_ble_eq_true rfl) (L := [.ref 119, .null, .null, .null, .null, .null, .null, .null, .null]) rfl (g_sub _ (sub_c (Or.inr rfl) (sub_c (Or.inr rfl) (sub_c (Or.inr rfl) (sub_c (Or.inr rfl) (sub_c (Or.inr rfl) (sub_c (Or.inr rfl) (sub_c (Or.inr rfl) (sub_c (Or.inr rfl) (sub_c (Or.inr rfl) sub_n))))))))) h)
theorem dX11_is_0 : decode cX11_is 0 = .ok (.iload_n 1, 1) := by decide +kernel
theorem dX11_is_1 : decode cX11_is 1 = .ok (.i2l, 1) := by decide +kernel
theorem dX11_is_2 : decode cX11_is 2 = .ok (.lconst 0, 1) := by decide +kernel
theorem dX11_is_3 : decode cX11_is 3 = .ok (.ldc2_w 270, 3) := by decide +kernel
theorem dX11_is_6 : decode cX11_is 6 = .ok (.invokestatic 63, 3) := by decide +kernel
theorem dX11_is_9 : decode cX11_is 9 = .ok (.ifCond .ne 6, 3) := by decide +kernel
theorem dX11_is_12 : decode cX11_is 12 = .ok (.ldc 112, 2) := by decide +kernel
theorem dX11_is_14 : decode cX11_is 14 = .ok (.ireturn, 1) := by decide +kernel
theorem dX11_is_15 : decode cX11_is 15 = .ok (.aload_n 0, 1) := by decide +kernel
theorem dX11_is_16 : decode cX11_is 16 = .ok (.invokevirtual 179, 3) := by decide +kernel
theorem dX11_is_19 : decode cX11_is 19 = .ok (.ifCond .ne 6, 3) := by decide +kernel
theorem dX11_is_22 : decode cX11_is 22 = .ok (.ldc 208, 2) := by decide +kernel
theorem dX11_is_24 : decode cX11_is 24 = .ok (.ireturn, 1) := by decide +kernel
theorem dX11_is_25 : decode cX11_is 25 = .ok (.iload_n 1, 1) := by decide +kernel
theorem dX11_is_26 : decode cX11_is 26 = .ok (.iconst 2, 1) := by decide +kernel
theorem dX11_is_27 : decode cX11_is 27 = .ok (.if_icmp .ne 8, 3) := by decide +kernel
theorem dX11_is_30 : decode cX11_is 30 = .ok (.aload_n 0, 1) := by decide +kernel
theorem dX11_is_31 : decode cX11_is 31 = .ok (.invokevirtual 272, 3) := by decide +kernel
theorem dX11_is_34 : decode cX11_is 34 = .ok (.ireturn, 1) := by decide +kernel
theorem dX11_is_35 : decode cX11_is 35 = .ok (.iconst 0, 1) := by decide +kernel
theorem dX11_is_36 : decode cX11_is 36 = .ok (.istore_n 2, 1) := by decide +kernel
theorem dX11_is_37 : decode cX11_is 37 = .ok (.iconst (-1), 1) := by decide +kernel
theorem dX11_is_38 : decode cX11_is 38 = .ok (.istore_n 3, 1) := by decide +kernel
theorem dX11_is_39 : decode cX11_is 39 = .ok (.bipush 39, 2) := by decide +kernel
theorem dX11_is_41 : decode cX11_is 41 = .ok (.istore 4, 2) := by decide +kernel
theorem dX11_is_43 : decode cX11_is 43 = .ok (.iload 4, 2) := by decide +kernel
theorem dX11_is_45 : decode cX11_is 45 = .ok (.ifCond .lt 42, 3) := by decide +kernel
theorem dX11_is_48 : decode cX11_is 48 = .ok (.iload_n 2, 1) := by decide +kernel
theorem dX11_is_49 : decode cX11_is 49 = .ok (.aload_n 0, 1) := by decide +kernel
theorem dX11_is_50 : decode cX11_is 50 = .ok (.iload 4, 2) := by decide +kernel
theorem dX11_is_52 : decode cX11_is 52 = .ok (.invokevirtual 267, 3) := by decide +kernel
theorem dX11_is_55 : decode cX11_is 55 = .ok (.ifCond .eq 7, 3) := by decide +kernel
theorem dX11_is_58 : decode cX11_is 58 = .ok (.iconst 1, 1) := by decide +kernel
theorem dX11_is_59 : decode cX11_is 59 = .ok (.goto 4, 3) := by decide +kernel
theorem dX11_is_62 : decode cX11_is 62 = .ok (.iconst 0, 1) := by decide +kernel
theorem dX11_is_63 : decode cX11_is 63 = .ok (.iadd, 1) := by decide +kernel
theorem dX11_is_64 : decode cX11_is 64 = .ok (.istore_n 2, 1) := by decide +kernel
theorem dX11_is_65 : decode cX11_is 65 = .ok (.aload_n 0, 1) := by decide +kernel
theorem dX11_is_66 : decode cX11_is 66 = .ok (.iload 4, 2) := by decide +kernel
theorem dX11_is_68 : decode cX11_is 68 = .ok (.invokevirtual 267, 3) := by decide +kernel
theorem dX11_is_71 : decode cX11_is 71 = .ok (.ifCond .eq 8, 3) := by decide +kernel
theorem dX11_is_74 : decode cX11_is 74 = .ok (.iload 4, 2) := by decide +kernel
theorem dX11_is_76 : decode cX11_is 76 = .ok (.goto 4, 3) := by decide +kernel
theorem dX11_is_79 : decode cX11_is 79 = .ok (.iload_n 3, 1) := by decide +kernel
theorem dX11_is_80 : decode cX11_is 80 = .ok (.istore_n 3, 1) := by decide +kernel
theorem dX11_is_81 : decode cX11_is 81 = .ok (.iinc 4 (-1), 3) := by decide +kernel
theorem dX11_is_84 : decode cX11_is 84 = .ok (.goto (-41), 3) := by decide +kernel
theorem dX11_is_87 : decode cX11_is 87 = .ok (.iload_n 1, 1) := by decide +kernel
theorem dX11_is_88 : decode cX11_is 88 = .ok (.ifCond .ne 7, 3) := by decide +kernel
theorem dX11_is_91 : decode cX11_is 91 = .ok (.iload_n 2, 1) := by decide +kernel
theorem dX11_is_92 : decode cX11_is 92 = .ok (.goto 4, 3) := by decide +kernel
theorem dX11_is_95 : decode cX11_is 95 = .ok (.iload_n 3, 1) := by decide +kernel
theorem dX11_is_96 : decode cX11_is 96 = .ok (.ireturn, 1) := by decide +kernel
theorem bX11_is_0 {κ : gK} {M : MM} {Q : Int32 → MM → Prop} (l1 : Int32)
    (h : Cl κ mX11_in [.long (l1).toInt64, .long (0 : Int64), .long (2 : Int64)] M (fun r1 M1 => ((r1 = 0 → Q (-1000000002 : Int32) M1) ∧ (¬ r1 = 0 → Cl κ mX11_isTown [.ref 119] M1 (fun r2 M2 => ((r2 = 0 → Q (-1000000003 : Int32) M2) ∧ (¬ r2 = 0 → ((l1 = (2 : Int32) → Cl κ mX11_watch [.ref 119] M2 (fun r3 M3 => Q r3 M3)) ∧ (¬ l1 = (2 : Int32) → G κ mX11_is 43 [.ref 119, .int l1, .int (0 : Int32), .int (-1 : Int32), .int (39 : Int32)] [] M2 Q))))))))) :
    G κ mX11_is 0 [.ref 119, .int l1, .null, .null, .null] [] M Q := by
  refine g_iload_n (i := 1) dX11_is_0 rfl rfl ?_
  refine g_i2l dX11_is_1 ?_
  refine g_lconst (v := (0 : Int64)) dX11_is_2 (by decide) ?_
  refine g_ldc2 dX11_is_3 wt_1147 ?_
  refine gc_RX11_63 rfl (Nat.le_of_ble_eq_true rfl) dX11_is_6 (Nat.le_of_ble_eq_true rfl) ?_
  refine Cl.mono h (fun r1 M1 h => ?_)
  refine g_if_ne (tgt := 15) dX11_is_9 rfl ⟨fun hc => ?_, fun hc => ?_⟩
  · replace h := h.1 hc
    refine g_ldc dX11_is_12 wt_873 ?_
    exact g_iret dX11_is_14 rfl h
  · replace h := h.2 hc
    refine g_aload_n (i := 0) dX11_is_15 rfl rfl ?_
    refine gc_RX11_179 rfl (Nat.le_of_ble_eq_true rfl) dX11_is_16 sh_119 (Nat.le_of_ble_eq_true rfl) ?_
    refine Cl.mono h (fun r2 M2 h => ?_)
    refine g_if_ne (tgt := 25) dX11_is_19 rfl ⟨fun hc => ?_, fun hc => ?_⟩
    · replace h := h.1 hc
      refine g_ldc dX11_is_22 wt_1002 ?_
      exact g_iret dX11_is_24 rfl h
    · replace h := h.2 hc
      refine g_iload_n (i := 1) dX11_is_25 rfl rfl ?_
      refine g_iconst (v := (2 : Int32)) dX11_is_26 (by decide) ?_
      refine g_icmp_ne (tgt := 35) dX11_is_27 rfl ⟨fun hc => ?_, fun hc => ?_⟩
      · replace h := h.1 hc
        refine g_aload_n (i := 0) dX11_is_30 rfl rfl ?_
        refine gc_RX11_272 rfl (Nat.le_of_ble_eq_true rfl) dX11_is_31 sh_119 (Nat.le_of_ble_eq_true rfl) ?_
        refine Cl.mono h (fun r3 M3 h => ?_)
        exact g_iret dX11_is_34 rfl h
      · replace h := h.2 hc
        refine g_iconst (v := (0 : Int32)) dX11_is_35 (by decide) ?_
        refine g_istore_n (i := 2) (L' := [.ref 119, .int l1, .int (0 : Int32), .null, .null]) dX11_is_36 rfl (Nat.le_of_ble_eq_true rfl) rfl rfl ?_
        refine g_iconst (v := (-1 : Int32)) dX11_is_37 (by decide) ?_
        refine g_istore_n (i := 3) (L' := [.ref 119, .int l1, .int (0 : Int32), .int (-1 : Int32), .null]) dX11_is_38 rfl (Nat.le_of_ble_eq_true rfl) rfl rfl ?_
        refine g_bipush (v := (39 : Int32)) dX11_is_39 (by decide) ?_
        refine g_istore (i := 4) (L' := [.ref 119, .int l1, .int (0 : Int32), .int (-1 : Int32), .int (39 : Int32)]) dX11_is_41 (Nat.le_of_ble_eq_true rfl) rfl rfl ?_
        exact h
theorem bX11_is_43 {κ : gK} {M : MM} {Q : Int32 → MM → Prop} (l1 : Int32) (l2 : Int32) (l3 : Int32) (l4 : Int32)
    (h : ((l4 < 0 → ((l1 = 0 → G κ mX11_is 96 [.null, .null, .null, .null, .null] [.int l2] M Q) ∧ (¬ l1 = 0 → G κ mX11_is 96 [.null, .null, .null, .null, .null] [.int l3] M Q))) ∧ (¬ l4 < 0 → Cl κ mX11_isSo [.ref 119, .int l4] M (fun r1 M1 => ((r1 = 0 → G κ mX11_is 63 [.ref 119, .int l1, .null, .int l3, .int l4] [.int (0 : Int32), .int l2] M1 Q) ∧ (¬ r1 = 0 → G κ mX11_is 63 [.ref 119, .int l1, .null, .int l3, .int l4] [.int (1 : Int32), .int l2] M1 Q)))))) :
    G κ mX11_is 43 [.ref 119, .int l1, .int l2, .int l3, .int l4] [] M Q := by
  refine g_iload (i := 4) dX11_is_43 rfl ?_
  refine g_if_lt (tgt := 87) dX11_is_45 rfl ⟨fun hc => ?_, fun hc => ?_⟩
  · replace h := h.1 hc
    refine g_iload_n (i := 1) dX11_is_87 rfl rfl ?_
    refine g_if_ne (tgt := 95) dX11_is_88 rfl ⟨fun hc => ?_, fun hc => ?_⟩
    · replace h := h.1 hc
      refine g_iload_n (i := 2) dX11_is_91 rfl rfl ?_
      refine g_goto (tgt := 96) dX11_is_92 rfl ?_
      exact g_sub _ (sub_c (Or.inl rfl) (sub_c (Or.inl rfl) (sub_c (Or.inl rfl) (sub_c (Or.inl rfl) (sub_c (Or.inl rfl) sub_n))))) h
    · replace h := h.2 hc
      refine g_iload_n (i := 3) dX11_is_95 rfl rfl ?_
      exact g_sub _ (sub_c (Or.inl rfl) (sub_c (Or.inl rfl) (sub_c (Or.inl rfl) (sub_c (Or.inl rfl) (sub_c (Or.inl rfl) sub_n))))) h
  · replace h := h.2 hc
    refine g_iload_n (i := 2) dX11_is_48 rfl rfl ?_
    refine g_aload_n (i := 0) dX11_is_49 rfl rfl ?_
    refine g_iload (i := 4) dX11_is_50 rfl ?_
    refine gc_RX11_267 rfl (Nat.le_of_ble_eq_true rfl) dX11_is_52 sh_119 (Nat.le_of_ble_eq_true rfl) ?_
    refine Cl.mono h (fun r1 M1 h => ?_)
    refine g_if_eq (tgt := 62) dX11_is_55 rfl ⟨fun hc => ?_, fun hc => ?_⟩
    · replace h := h.1 hc
      refine g_iconst (v := (0 : Int32)) dX11_is_62 (by decide) ?_
      exact g_sub _ (sub_c (Or.inr rfl) (sub_c (Or.inr rfl) (sub_c (Or.inl rfl) (sub_c (Or.inr rfl) (sub_c (Or.inr rfl) sub_n))))) h
    · replace h := h.2 hc
      refine g_iconst (v := (1 : Int32)) dX11_is_58 (by decide) ?_
      refine g_goto (tgt := 63) dX11_is_59 rfl ?_
      exact g_sub _ (sub_c (Or.inr rfl) (sub_c (Or.inr rfl) (sub_c (Or.inl rfl) (sub_c (Or.inr rfl) (sub_c (Or.inr rfl) sub_n))))) h
theorem bX11_is_63 {κ : gK} {M : MM} {Q : Int32 → MM → Prop} (l1 : Int32) (l3 : Int32) (l4 : Int32) (s0 : Int32) (s1 : Int32)
    (h : Cl κ mX11_isSo [.ref 119, .int l4] M (fun r1 M1 => ((r1 = 0 → G κ mX11_is 80 [.ref 119, .int l1, .int (s1 + s0), .null, .int l4] [.int l3] M1 Q) ∧ (¬ r1 = 0 → G κ mX11_is 80 [.ref 119, .int l1, .int (s1 + s0), .null, .int l4] [.int l4] M1 Q)))) :
    G κ mX11_is 63 [.ref 119, .int l1, .null, .int l3, .int l4] [.int s0, .int s1] M Q := by
  refine g_iadd dX11_is_63 ?_
  refine g_istore_n (i := 2) (L' := [.ref 119, .int l1, .int (s1 + s0), .int l3, .int l4]) dX11_is_64 rfl (Nat.le_of_ble_eq_true rfl) rfl rfl ?_
  refine g_aload_n (i := 0) dX11_is_65 rfl rfl ?_
  refine g_iload (i := 4) dX11_is_66 rfl ?_
  refine gc_RX11_267 rfl (Nat.le_of_ble_eq_true rfl) dX11_is_68 sh_119 (Nat.le_of_ble_eq_true rfl) ?_
  refine Cl.mono h (fun r1 M1 h => ?_)
  refine g_if_eq (tgt := 79) dX11_is_71 rfl ⟨fun hc => ?_, fun hc => ?_⟩
  · replace h := h.1 hc
    refine g_iload_n (i := 3) dX11_is_79 rfl rfl ?_
    exact g_sub _ (sub_c (Or.inr rfl) (sub_c (Or.inr rfl) (sub_c (Or.inr rfl) (sub_c (Or.inl rfl) (sub_c (Or.inr rfl) sub_n))))) h
  · replace h := h.2 hc
    refine g_iload (i := 4) dX11_is_74 rfl ?_
    refine g_goto (tgt := 80) dX11_is_76 rfl ?_
    exact g_sub _ (sub_c (Or.inr rfl) (sub_c (Or.inr rfl) (sub_c (Or.inr rfl) (sub_c (Or.inl rfl) (sub_c (Or.inr rfl) sub_n))))) h
theorem bX11_is_80 {κ : gK} {M : MM} {Q : Int32 → MM → Prop} (l1 : Int32) (l2 : Int32) (l4 : Int32) (s0 : Int32)
    (h : G κ mX11_is 43 [.ref 119, .int l1, .int l2, .int s0, .int (l4 + (-1))] [] M Q) :
    G κ mX11_is 80 [.ref 119, .int l1, .int l2, .null, .int l4] [.int s0] M Q := by
  refine g_istore_n (i := 3) (L' := [.ref 119, .int l1, .int l2, .int s0, .int l4]) dX11_is_80 rfl (Nat.le_of_ble_eq_true rfl) rfl rfl ?_
  refine g_iinc (v := (l4 + (-1))) (L' := [.ref 119, .int l1, .int l2, .int s0, .int (l4 + (-1))]) dX11_is_81 rfl rfl (Nat.le_of_ble_eq_true rfl) rfl rfl ?_
  refine g_goto (tgt := 43) dX11_is_84 rfl ?_
  exact h
theorem bX11_is_96 {κ : gK} {M : MM} {Q : Int32 → MM → Prop} (s0 : Int32)
    (h : Q s0 M) :
    G κ mX11_is 96 [.null, .null, .null, .null, .null] [.int s0] M Q := by
  exact g_iret dX11_is_96 rfl h
theorem eX11_is {κ : gK} {M : MM} {Q : Int32 → MM → Prop} (l1 : Int32)
    (h : G κ mX11_is 0 [.ref 119, .int l1, .null, .null, .null] [] M Q) : Cl κ mX11_is [.ref 119, .int l1] M Q := g_entry 3 pl_X11_is (Nat.le_of_ble_eq_true rfl) (L := [.ref 119, .int l1, .null, .null, .null]) rfl (g_sub _ (sub_c (Or.inr rfl) (sub_c (Or.inr rfl) (sub_c (Or.inr rfl) (sub_c (Or.inr rfl) (sub_c (Or.inr rfl) sub_n))))) h)
theorem dX11_met_0 : decode cX11_met 0 = .ok (.aload_n 0, 1) := by decide +kernel
theorem dX11_met_1 : decode cX11_met 1 = .ok (.iload_n 1, 1) := by decide +kernel
theorem dX11_met_2 : decode cX11_met 2 = .ok (.invokevirtual 195, 3) := by decide +kernel
theorem dX11_met_5 : decode cX11_met 5 = .ok (.ifCond .eq 16, 3) := by decide +kernel
theorem dX11_met_8 : decode cX11_met 8 = .ok (.aload_n 0, 1) := by decide +kernel
theorem dX11_met_9 : decode cX11_met 9 = .ok (.iload_n 2, 1) := by decide +kernel
theorem dX11_met_10 : decode cX11_met 10 = .ok (.invokevirtual 195, 3) := by decide +kernel
theorem dX11_met_13 : decode cX11_met 13 = .ok (.ifCond .eq 8, 3) := by decide +kernel
theorem dX11_met_16 : decode cX11_met 16 = .ok (.iload_n 1, 1) := by decide +kernel
theorem dX11_met_17 : decode cX11_met 17 = .ok (.iload_n 2, 1) := by decide +kernel
theorem dX11_met_18 : decode cX11_met 18 = .ok (.if_icmp .ne 6, 3) := by decide +kernel
theorem dX11_met_21 : decode cX11_met 21 = .ok (.ldc 199, 2) := by decide +kernel
theorem dX11_met_23 : decode cX11_met 23 = .ok (.ireturn, 1) := by decide +kernel
theorem dX11_met_24 : decode cX11_met 24 = .ok (.aload_n 0, 1) := by decide +kernel
theorem dX11_met_25 : decode cX11_met 25 = .ok (.getfield 170, 3) := by decide +kernel
theorem dX11_met_28 : decode cX11_met 28 = .ok (.bipush 10, 2) := by decide +kernel
theorem dX11_met_30 : decode cX11_met 30 = .ok (.if_icmp .ne 6, 3) := by decide +kernel
theorem dX11_met_33 : decode cX11_met 33 = .ok (.ldc 116, 2) := by decide +kernel
theorem dX11_met_35 : decode cX11_met 35 = .ok (.ireturn, 1) := by decide +kernel
theorem dX11_met_36 : decode cX11_met 36 = .ok (.aload_n 0, 1) := by decide +kernel
theorem dX11_met_37 : decode cX11_met 37 = .ok (.getfield 44, 3) := by decide +kernel
theorem dX11_met_40 : decode cX11_met 40 = .ok (.iconst 3, 1) := by decide +kernel
theorem dX11_met_41 : decode cX11_met 41 = .ok (.aload_n 0, 1) := by decide +kernel
theorem dX11_met_42 : decode cX11_met 42 = .ok (.getfield 170, 3) := by decide +kernel
theorem dX11_met_45 : decode cX11_met 45 = .ok (.imul, 1) := by decide +kernel
theorem dX11_met_46 : decode cX11_met 46 = .ok (.iload_n 1, 1) := by decide +kernel
theorem dX11_met_47 : decode cX11_met 47 = .ok (.iastore, 1) := by decide +kernel
theorem dX11_met_48 : decode cX11_met 48 = .ok (.aload_n 0, 1) := by decide +kernel
theorem dX11_met_49 : decode cX11_met 49 = .ok (.getfield 44, 3) := by decide +kernel
theorem dX11_met_52 : decode cX11_met 52 = .ok (.iconst 3, 1) := by decide +kernel
theorem dX11_met_53 : decode cX11_met 53 = .ok (.aload_n 0, 1) := by decide +kernel
theorem dX11_met_54 : decode cX11_met 54 = .ok (.getfield 170, 3) := by decide +kernel
theorem dX11_met_57 : decode cX11_met 57 = .ok (.imul, 1) := by decide +kernel
theorem dX11_met_58 : decode cX11_met 58 = .ok (.iconst 1, 1) := by decide +kernel
theorem dX11_met_59 : decode cX11_met 59 = .ok (.iadd, 1) := by decide +kernel
theorem dX11_met_60 : decode cX11_met 60 = .ok (.iload_n 2, 1) := by decide +kernel
theorem dX11_met_61 : decode cX11_met 61 = .ok (.iastore, 1) := by decide +kernel
theorem dX11_met_62 : decode cX11_met 62 = .ok (.aload_n 0, 1) := by decide +kernel
theorem dX11_met_63 : decode cX11_met 63 = .ok (.getfield 44, 3) := by decide +kernel
theorem dX11_met_66 : decode cX11_met 66 = .ok (.iconst 3, 1) := by decide +kernel
theorem dX11_met_67 : decode cX11_met 67 = .ok (.aload_n 0, 1) := by decide +kernel
theorem dX11_met_68 : decode cX11_met 68 = .ok (.getfield 170, 3) := by decide +kernel
theorem dX11_met_71 : decode cX11_met 71 = .ok (.imul, 1) := by decide +kernel
theorem dX11_met_72 : decode cX11_met 72 = .ok (.iconst 2, 1) := by decide +kernel
theorem dX11_met_73 : decode cX11_met 73 = .ok (.iadd, 1) := by decide +kernel
theorem dX11_met_74 : decode cX11_met 74 = .ok (.iload_n 3, 1) := by decide +kernel
theorem dX11_met_75 : decode cX11_met 75 = .ok (.ifCond .eq 7, 3) := by decide +kernel
theorem dX11_met_78 : decode cX11_met 78 = .ok (.iconst 1, 1) := by decide +kernel
theorem dX11_met_79 : decode cX11_met 79 = .ok (.goto 4, 3) := by decide +kernel
theorem dX11_met_82 : decode cX11_met 82 = .ok (.iconst 0, 1) := by decide +kernel
theorem dX11_met_83 : decode cX11_met 83 = .ok (.iastore, 1) := by decide +kernel
theorem dX11_met_84 : decode cX11_met 84 = .ok (.aload_n 0, 1) := by decide +kernel
theorem dX11_met_85 : decode cX11_met 85 = .ok (.dup, 1) := by decide +kernel
theorem dX11_met_86 : decode cX11_met 86 = .ok (.getfield 170, 3) := by decide +kernel
theorem dX11_met_89 : decode cX11_met 89 = .ok (.iconst 1, 1) := by decide +kernel
theorem dX11_met_90 : decode cX11_met 90 = .ok (.iadd, 1) := by decide +kernel
theorem dX11_met_91 : decode cX11_met 91 = .ok (.putfield 170, 3) := by decide +kernel
theorem dX11_met_94 : decode cX11_met 94 = .ok (.aload_n 0, 1) := by decide +kernel
theorem dX11_met_95 : decode cX11_met 95 = .ok (.getfield 170, 3) := by decide +kernel
theorem dX11_met_98 : decode cX11_met 98 = .ok (.ireturn, 1) := by decide +kernel
theorem bX11_met_0 {κ : gK} {M : MM} {Q : Int32 → MM → Prop} (l1 : Int32) (l2 : Int32) (l3 : Int32)
    (h : Cl κ mX11_isPerson [.ref 119, .int l1] M (fun r1 M1 => ((r1 = 0 → G κ mX11_met 21 [.null, .null, .null, .null] [] M1 Q) ∧ (¬ r1 = 0 → Cl κ mX11_isPerson [.ref 119, .int l2] M1 (fun r2 M2 => ((r2 = 0 → G κ mX11_met 21 [.null, .null, .null, .null] [] M2 Q) ∧ (¬ r2 = 0 → ((l1 = l2 → G κ mX11_met 21 [.null, .null, .null, .null] [] M2 Q) ∧ (¬ l1 = l2 → (((M2 119 26) = (10 : Int32) → Q (-1000000004 : Int32) M2) ∧ (¬ (M2 119 26) = (10 : Int32) → (vp_in ((3 : Int32) * (M2 119 26)) 30) ∧ (∀ M3 : MM, M3 = (pt M2 130 (((3 : Int32) * (M2 119 26))).toNatClampNeg l1) → ((vp_in (((3 : Int32) * (M3 119 26)) + (1 : Int32)) 30) ∧ (∀ M4 : MM, M4 = (pt M3 130 ((((3 : Int32) * (M3 119 26)) + (1 : Int32))).toNatClampNeg l2) → (((l3 = 0 → G κ mX11_met 83 [.ref 119, .null, .null, .null] [.int (0 : Int32), .int (((3 : Int32) * (M4 119 26)) + (2 : Int32)), .ref 130] M4 Q) ∧ (¬ l3 = 0 → G κ mX11_met 83 [.ref 119, .null, .null, .null] [.int (1 : Int32), .int (((3 : Int32) * (M4 119 26)) + (2 : Int32)), .ref 130] M4 Q))))))))))))))))) :
    G κ mX11_met 0 [.ref 119, .int l1, .int l2, .int l3] [] M Q := by
  refine g_aload_n (i := 0) dX11_met_0 rfl rfl ?_
  refine g_iload_n (i := 1) dX11_met_1 rfl rfl ?_
  refine gc_RX11_195 rfl (Nat.le_of_ble_eq_true rfl) dX11_met_2 sh_119 (Nat.le_of_ble_eq_true rfl) ?_
  refine Cl.mono h (fun r1 M1 h => ?_)
  refine g_if_eq (tgt := 21) dX11_met_5 rfl ⟨fun hc => ?_, fun hc => ?_⟩
  · replace h := h.1 hc
    exact g_sub _ (sub_c (Or.inl rfl) (sub_c (Or.inl rfl) (sub_c (Or.inl rfl) (sub_c (Or.inl rfl) sub_n)))) h
  · replace h := h.2 hc
    refine g_aload_n (i := 0) dX11_met_8 rfl rfl ?_
    refine g_iload_n (i := 2) dX11_met_9 rfl rfl ?_
    refine gc_RX11_195 rfl (Nat.le_of_ble_eq_true rfl) dX11_met_10 sh_119 (Nat.le_of_ble_eq_true rfl) ?_
    refine Cl.mono h (fun r2 M2 h => ?_)
    refine g_if_eq (tgt := 21) dX11_met_13 rfl ⟨fun hc => ?_, fun hc => ?_⟩
    · replace h := h.1 hc
      exact g_sub _ (sub_c (Or.inl rfl) (sub_c (Or.inl rfl) (sub_c (Or.inl rfl) (sub_c (Or.inl rfl) sub_n)))) h
    · replace h := h.2 hc
      refine g_iload_n (i := 1) dX11_met_16 rfl rfl ?_
      refine g_iload_n (i := 2) dX11_met_17 rfl rfl ?_
      refine g_icmp_ne (tgt := 24) dX11_met_18 rfl ⟨fun hc => ?_, fun hc => ?_⟩
      · replace h := h.1 hc
        exact g_sub _ (sub_c (Or.inl rfl) (sub_c (Or.inl rfl) (sub_c (Or.inl rfl) (sub_c (Or.inl rfl) sub_n)))) h
      · replace h := h.2 hc
        refine g_aload_n (i := 0) dX11_met_24 rfl rfl ?_
        refine gf_RX11_170 rfl dX11_met_25 sh_119 ?_
        refine g_bipush (v := (10 : Int32)) dX11_met_28 (by decide) ?_
        refine g_icmp_ne (tgt := 36) dX11_met_30 rfl ⟨fun hc => ?_, fun hc => ?_⟩
        · replace h := h.1 hc
          refine g_ldc dX11_met_33 wt_874 ?_
          exact g_iret dX11_met_35 rfl h
        · replace h := h.2 hc
          refine g_aload_n (i := 0) dX11_met_36 rfl rfl ?_
          refine gf_RX11_44 rfl dX11_met_37 sh_119 ?_
          refine g_iconst (v := (3 : Int32)) dX11_met_40 (by decide) ?_
          refine g_aload_n (i := 0) dX11_met_41 rfl rfl ?_
          refine gf_RX11_170 rfl dX11_met_42 sh_119 ?_
          refine g_imul dX11_met_45 ?_
          refine g_iload_n (i := 1) dX11_met_46 rfl rfl ?_
          have hv1 := h.1; replace h := h.2
          refine g_iastP dX11_met_47 sh_130 hv1 ?_
          refine g_nmM (fun M3 hM3 => ?_); replace h := h M3 hM3
          refine g_aload_n (i := 0) dX11_met_48 rfl rfl ?_
          refine gf_RX11_44 rfl dX11_met_49 sh_119 ?_
          refine g_iconst (v := (3 : Int32)) dX11_met_52 (by decide) ?_
          refine g_aload_n (i := 0) dX11_met_53 rfl rfl ?_
          refine gf_RX11_170 rfl dX11_met_54 sh_119 ?_
          refine g_imul dX11_met_57 ?_
          refine g_iconst (v := (1 : Int32)) dX11_met_58 (by decide) ?_
          refine g_iadd dX11_met_59 ?_
          refine g_iload_n (i := 2) dX11_met_60 rfl rfl ?_
          have hv2 := h.1; replace h := h.2
          refine g_iastP dX11_met_61 sh_130 hv2 ?_
          refine g_nmM (fun M4 hM4 => ?_); replace h := h M4 hM4
          refine g_aload_n (i := 0) dX11_met_62 rfl rfl ?_
          refine gf_RX11_44 rfl dX11_met_63 sh_119 ?_
          refine g_iconst (v := (3 : Int32)) dX11_met_66 (by decide) ?_
          refine g_aload_n (i := 0) dX11_met_67 rfl rfl ?_
          refine gf_RX11_170 rfl dX11_met_68 sh_119 ?_
          refine g_imul dX11_met_71 ?_
          refine g_iconst (v := (2 : Int32)) dX11_met_72 (by decide) ?_
          refine g_iadd dX11_met_73 ?_
          refine g_iload_n (i := 3) dX11_met_74 rfl rfl ?_
          refine g_if_eq (tgt := 82) dX11_met_75 rfl ⟨fun hc => ?_, fun hc => ?_⟩
          · replace h := h.1 hc
            refine g_iconst (v := (0 : Int32)) dX11_met_82 (by decide) ?_
            exact g_sub _ (sub_c (Or.inr rfl) (sub_c (Or.inl rfl) (sub_c (Or.inl rfl) (sub_c (Or.inl rfl) sub_n)))) h
          · replace h := h.2 hc
            refine g_iconst (v := (1 : Int32)) dX11_met_78 (by decide) ?_
            refine g_goto (tgt := 83) dX11_met_79 rfl ?_
            exact g_sub _ (sub_c (Or.inr rfl) (sub_c (Or.inl rfl) (sub_c (Or.inl rfl) (sub_c (Or.inl rfl) sub_n)))) h
theorem bX11_met_21 {κ : gK} {M : MM} {Q : Int32 → MM → Prop} 
    (h : Q (-1000000001 : Int32) M) :
    G κ mX11_met 21 [.null, .null, .null, .null] [] M Q := by
  refine g_ldc dX11_met_21 wt_984 ?_
  exact g_iret dX11_met_23 rfl h
theorem bX11_met_83 {κ : gK} {M : MM} {Q : Int32 → MM → Prop} (s0 : Int32) (s1 : Int32)
    (h : (vp_in s1 30) ∧ (∀ M1 : MM, M1 = (pt M 130 (s1).toNatClampNeg s0) → (∀ M2 : MM, M2 = (pt M1 119 26 ((M1 119 26) + (1 : Int32))) → (Q (M2 119 26) M2)))) :
    G κ mX11_met 83 [.ref 119, .null, .null, .null] [.int s0, .int s1, .ref 130] M Q := by
  have hv1 := h.1; replace h := h.2
  refine g_iastP dX11_met_83 sh_130 hv1 ?_
  refine g_nmM (fun M1 hM1 => ?_); replace h := h M1 hM1
  refine g_aload_n (i := 0) dX11_met_84 rfl rfl ?_
  refine g_dup dX11_met_85 rfl ?_
  refine gf_RX11_170 rfl dX11_met_86 sh_119 ?_
  refine g_iconst (v := (1 : Int32)) dX11_met_89 (by decide) ?_
  refine g_iadd dX11_met_90 ?_
  refine gp_RX11_170 rfl dX11_met_91 sh_119 ?_
  refine g_nmM (fun M2 hM2 => ?_); replace h := h M2 hM2
  refine g_aload_n (i := 0) dX11_met_94 rfl rfl ?_
  refine gf_RX11_170 rfl dX11_met_95 sh_119 ?_
  exact g_iret dX11_met_98 rfl h
theorem eX11_met {κ : gK} {M : MM} {Q : Int32 → MM → Prop} (l1 : Int32) (l2 : Int32) (l3 : Int32)
    (h : G κ mX11_met 0 [.ref 119, .int l1, .int l2, .int l3] [] M Q) : Cl κ mX11_met [.ref 119, .int l1, .int l2, .int l3] M Q := g_entry 0 pl_X11_met (Nat.le_of_ble_eq_true rfl) (L := [.ref 119, .int l1, .int l2, .int l3]) rfl (g_sub _ (sub_c (Or.inr rfl) (sub_c (Or.inr rfl) (sub_c (Or.inr rfl) (sub_c (Or.inr rfl) sub_n)))) h)
theorem dX11_fits_0 : decode cX11_fits 0 = .ok (.iconst 1, 1) := by decide +kernel
theorem dX11_fits_1 : decode cX11_fits 1 = .ok (.istore_n 2, 1) := by decide +kernel
theorem dX11_fits_2 : decode cX11_fits 2 = .ok (.iconst 0, 1) := by decide +kernel
theorem dX11_fits_3 : decode cX11_fits 3 = .ok (.istore_n 3, 1) := by decide +kernel
theorem dX11_fits_4 : decode cX11_fits 4 = .ok (.iload_n 3, 1) := by decide +kernel
theorem dX11_fits_5 : decode cX11_fits 5 = .ok (.aload_n 0, 1) := by decide +kernel
theorem dX11_fits_6 : decode cX11_fits 6 = .ok (.getfield 170, 3) := by decide +kernel
theorem dX11_fits_9 : decode cX11_fits 9 = .ok (.if_icmp .ge 97, 3) := by decide +kernel
theorem dX11_fits_12 : decode cX11_fits 12 = .ok (.aload_n 0, 1) := by decide +kernel
theorem dX11_fits_13 : decode cX11_fits 13 = .ok (.getfield 44, 3) := by decide +kernel
theorem dX11_fits_16 : decode cX11_fits 16 = .ok (.iconst 3, 1) := by decide +kernel
theorem dX11_fits_17 : decode cX11_fits 17 = .ok (.iload_n 3, 1) := by decide +kernel
theorem dX11_fits_18 : decode cX11_fits 18 = .ok (.imul, 1) := by decide +kernel
theorem dX11_fits_19 : decode cX11_fits 19 = .ok (.iaload, 1) := by decide +kernel
theorem dX11_fits_20 : decode cX11_fits 20 = .ok (.istore 4, 2) := by decide +kernel
theorem dX11_fits_22 : decode cX11_fits 22 = .ok (.aload_n 0, 1) := by decide +kernel
theorem dX11_fits_23 : decode cX11_fits 23 = .ok (.getfield 44, 3) := by decide +kernel
theorem dX11_fits_26 : decode cX11_fits 26 = .ok (.iconst 3, 1) := by decide +kernel
theorem dX11_fits_27 : decode cX11_fits 27 = .ok (.iload_n 3, 1) := by decide +kernel
theorem dX11_fits_28 : decode cX11_fits 28 = .ok (.imul, 1) := by decide +kernel
theorem dX11_fits_29 : decode cX11_fits 29 = .ok (.iconst 1, 1) := by decide +kernel
theorem dX11_fits_30 : decode cX11_fits 30 = .ok (.iadd, 1) := by decide +kernel
theorem dX11_fits_31 : decode cX11_fits 31 = .ok (.iaload, 1) := by decide +kernel
theorem dX11_fits_32 : decode cX11_fits 32 = .ok (.istore 5, 2) := by decide +kernel
theorem dX11_fits_34 : decode cX11_fits 34 = .ok (.iload_n 2, 1) := by decide +kernel
theorem dX11_fits_35 : decode cX11_fits 35 = .ok (.ifCond .eq 63, 3) := by decide +kernel
theorem dX11_fits_38 : decode cX11_fits 38 = .ok (.iload 4, 2) := by decide +kernel
theorem dX11_fits_40 : decode cX11_fits 40 = .ok (.iload_n 1, 1) := by decide +kernel
theorem dX11_fits_41 : decode cX11_fits 41 = .ok (.if_icmp .ge 53, 3) := by decide +kernel
theorem dX11_fits_44 : decode cX11_fits 44 = .ok (.iload 5, 2) := by decide +kernel
theorem dX11_fits_46 : decode cX11_fits 46 = .ok (.iload_n 1, 1) := by decide +kernel
theorem dX11_fits_47 : decode cX11_fits 47 = .ok (.if_icmp .ge 47, 3) := by decide +kernel
theorem dX11_fits_50 : decode cX11_fits 50 = .ok (.aload_n 0, 1) := by decide +kernel
theorem dX11_fits_51 : decode cX11_fits 51 = .ok (.getfield 47, 3) := by decide +kernel
theorem dX11_fits_54 : decode cX11_fits 54 = .ok (.iload 4, 2) := by decide +kernel
theorem dX11_fits_56 : decode cX11_fits 56 = .ok (.iaload, 1) := by decide +kernel
theorem dX11_fits_57 : decode cX11_fits 57 = .ok (.aload_n 0, 1) := by decide +kernel
theorem dX11_fits_58 : decode cX11_fits 58 = .ok (.getfield 47, 3) := by decide +kernel
theorem dX11_fits_61 : decode cX11_fits 61 = .ok (.iload 5, 2) := by decide +kernel
theorem dX11_fits_63 : decode cX11_fits 63 = .ok (.iaload, 1) := by decide +kernel
theorem dX11_fits_64 : decode cX11_fits 64 = .ok (.if_icmp .ne 7, 3) := by decide +kernel
theorem dX11_fits_67 : decode cX11_fits 67 = .ok (.iconst 1, 1) := by decide +kernel
theorem dX11_fits_68 : decode cX11_fits 68 = .ok (.goto 4, 3) := by decide +kernel
theorem dX11_fits_71 : decode cX11_fits 71 = .ok (.iconst 0, 1) := by decide +kernel
theorem dX11_fits_72 : decode cX11_fits 72 = .ok (.aload_n 0, 1) := by decide +kernel
theorem dX11_fits_73 : decode cX11_fits 73 = .ok (.getfield 44, 3) := by decide +kernel
theorem dX11_fits_76 : decode cX11_fits 76 = .ok (.iconst 3, 1) := by decide +kernel
theorem dX11_fits_77 : decode cX11_fits 77 = .ok (.iload_n 3, 1) := by decide +kernel
theorem dX11_fits_78 : decode cX11_fits 78 = .ok (.imul, 1) := by decide +kernel
theorem dX11_fits_79 : decode cX11_fits 79 = .ok (.iconst 2, 1) := by decide +kernel
theorem dX11_fits_80 : decode cX11_fits 80 = .ok (.iadd, 1) := by decide +kernel
theorem dX11_fits_81 : decode cX11_fits 81 = .ok (.iaload, 1) := by decide +kernel
theorem dX11_fits_82 : decode cX11_fits 82 = .ok (.iconst 1, 1) := by decide +kernel
theorem dX11_fits_83 : decode cX11_fits 83 = .ok (.if_icmp .ne 7, 3) := by decide +kernel
theorem dX11_fits_86 : decode cX11_fits 86 = .ok (.iconst 1, 1) := by decide +kernel
theorem dX11_fits_87 : decode cX11_fits 87 = .ok (.goto 4, 3) := by decide +kernel
theorem dX11_fits_90 : decode cX11_fits 90 = .ok (.iconst 0, 1) := by decide +kernel
theorem dX11_fits_91 : decode cX11_fits 91 = .ok (.if_icmp .ne 7, 3) := by decide +kernel
theorem dX11_fits_94 : decode cX11_fits 94 = .ok (.iconst 1, 1) := by decide +kernel
theorem dX11_fits_95 : decode cX11_fits 95 = .ok (.goto 4, 3) := by decide +kernel
theorem dX11_fits_98 : decode cX11_fits 98 = .ok (.iconst 0, 1) := by decide +kernel
theorem dX11_fits_99 : decode cX11_fits 99 = .ok (.istore_n 2, 1) := by decide +kernel
theorem dX11_fits_100 : decode cX11_fits 100 = .ok (.iinc 3 1, 3) := by decide +kernel
theorem dX11_fits_103 : decode cX11_fits 103 = .ok (.goto (-99), 3) := by decide +kernel
theorem dX11_fits_106 : decode cX11_fits 106 = .ok (.iload_n 2, 1) := by decide +kernel
theorem dX11_fits_107 : decode cX11_fits 107 = .ok (.ireturn, 1) := by decide +kernel
theorem bX11_fits_0 {κ : gK} {M : MM} {Q : Int32 → MM → Prop} (l1 : Int32)
    (h : G κ mX11_fits 4 [.ref 119, .int l1, .int (1 : Int32), .int (0 : Int32), .null, .null] [] M Q) :
    G κ mX11_fits 0 [.ref 119, .int l1, .null, .null, .null, .null] [] M Q := by
  refine g_iconst (v := (1 : Int32)) dX11_fits_0 (by decide) ?_
  refine g_istore_n (i := 2) (L' := [.ref 119, .int l1, .int (1 : Int32), .null, .null, .null]) dX11_fits_1 rfl (Nat.le_of_ble_eq_true rfl) rfl rfl ?_
  refine g_iconst (v := (0 : Int32)) dX11_fits_2 (by decide) ?_
  refine g_istore_n (i := 3) (L' := [.ref 119, .int l1, .int (1 : Int32), .int (0 : Int32), .null, .null]) dX11_fits_3 rfl (Nat.le_of_ble_eq_true rfl) rfl rfl ?_
  exact h
theorem bX11_fits_4 {κ : gK} {M : MM} {Q : Int32 → MM → Prop} (l1 : Int32) (l2 : Int32) (l3 : Int32)
    (h : (((M 119 26) ≤ l3 → (isB l2 ∧ Q l2 M)) ∧ (¬ (M 119 26) ≤ l3 → (vp_in ((3 : Int32) * l3) 30) ∧ (∀ v1 : Int32, v1 = (M 130 (((3 : Int32) * l3)).toNatClampNeg) → ((vp_in (((3 : Int32) * l3) + (1 : Int32)) 30) ∧ (∀ v2 : Int32, v2 = (M 130 ((((3 : Int32) * l3) + (1 : Int32))).toNatClampNeg) → (((l2 = 0 → G κ mX11_fits 98 [.ref 119, .int l1, .null, .int l3, .null, .null] [] M Q) ∧ (¬ l2 = 0 → ((l1 ≤ v1 → G κ mX11_fits 94 [.ref 119, .int l1, .null, .int l3, .null, .null] [] M Q) ∧ (¬ l1 ≤ v1 → ((l1 ≤ v2 → G κ mX11_fits 94 [.ref 119, .int l1, .null, .int l3, .null, .null] [] M Q) ∧ (¬ l1 ≤ v2 → (vp_in v1 8) ∧ ((vp_in v2 8) ∧ ((((M 131 (v1).toNatClampNeg) = (M 131 (v2).toNatClampNeg) → G κ mX11_fits 72 [.ref 119, .int l1, .null, .int l3, .null, .null] [.int (1 : Int32)] M Q) ∧ (¬ (M 131 (v1).toNatClampNeg) = (M 131 (v2).toNatClampNeg) → G κ mX11_fits 72 [.ref 119, .int l1, .null, .int l3, .null, .null] [.int (0 : Int32)] M Q))))))))))))))))) :
    G κ mX11_fits 4 [.ref 119, .int l1, .int l2, .int l3, .null, .null] [] M Q := by
  refine g_iload_n (i := 3) dX11_fits_4 rfl rfl ?_
  refine g_aload_n (i := 0) dX11_fits_5 rfl rfl ?_
  refine gf_RX11_170 rfl dX11_fits_6 sh_119 ?_
  refine g_icmp_ge (tgt := 106) dX11_fits_9 rfl ⟨fun hc => ?_, fun hc => ?_⟩
  · replace h := h.1 hc
    refine g_iload_n (i := 2) dX11_fits_106 rfl rfl ?_
    exact g_zret dX11_fits_107 rfl (isB_n h.1) h.2
  · replace h := h.2 hc
    refine g_aload_n (i := 0) dX11_fits_12 rfl rfl ?_
    refine gf_RX11_44 rfl dX11_fits_13 sh_119 ?_
    refine g_iconst (v := (3 : Int32)) dX11_fits_16 (by decide) ?_
    refine g_iload_n (i := 3) dX11_fits_17 rfl rfl ?_
    refine g_imul dX11_fits_18 ?_
    have hv1 := h.1; replace h := h.2
    refine g_iald dX11_fits_19 sh_130 hv1 ?_
    refine lv_nm (fun v1 hn1 => ?_) (x := (M 130 (((3 : Int32) * l3)).toNatClampNeg))
    replace h := h v1 hn1
    refine g_istore (i := 4) (L' := [.ref 119, .int l1, .int l2, .int l3, .int v1, .null]) dX11_fits_20 (Nat.le_of_ble_eq_true rfl) rfl rfl ?_
    refine g_aload_n (i := 0) dX11_fits_22 rfl rfl ?_
    refine gf_RX11_44 rfl dX11_fits_23 sh_119 ?_
    refine g_iconst (v := (3 : Int32)) dX11_fits_26 (by decide) ?_
    refine g_iload_n (i := 3) dX11_fits_27 rfl rfl ?_
    refine g_imul dX11_fits_28 ?_
    refine g_iconst (v := (1 : Int32)) dX11_fits_29 (by decide) ?_
    refine g_iadd dX11_fits_30 ?_
    have hv2 := h.1; replace h := h.2
    refine g_iald dX11_fits_31 sh_130 hv2 ?_
    refine lv_nm (fun v2 hn2 => ?_) (x := (M 130 ((((3 : Int32) * l3) + (1 : Int32))).toNatClampNeg))
    replace h := h v2 hn2
    refine g_istore (i := 5) (L' := [.ref 119, .int l1, .int l2, .int l3, .int v1, .int v2]) dX11_fits_32 (Nat.le_of_ble_eq_true rfl) rfl rfl ?_
    refine g_iload_n (i := 2) dX11_fits_34 rfl rfl ?_
    refine g_if_eq (tgt := 98) dX11_fits_35 rfl ⟨fun hc => ?_, fun hc => ?_⟩
    · replace h := h.1 hc
      exact g_sub _ (sub_c (Or.inr rfl) (sub_c (Or.inr rfl) (sub_c (Or.inl rfl) (sub_c (Or.inr rfl) (sub_c (Or.inl rfl) (sub_c (Or.inl rfl) sub_n)))))) h
    · replace h := h.2 hc
      refine g_iload (i := 4) dX11_fits_38 rfl ?_
      refine g_iload_n (i := 1) dX11_fits_40 rfl rfl ?_
      refine g_icmp_ge (tgt := 94) dX11_fits_41 rfl ⟨fun hc => ?_, fun hc => ?_⟩
      · replace h := h.1 hc
        exact g_sub _ (sub_c (Or.inr rfl) (sub_c (Or.inr rfl) (sub_c (Or.inl rfl) (sub_c (Or.inr rfl) (sub_c (Or.inl rfl) (sub_c (Or.inl rfl) sub_n)))))) h
      · replace h := h.2 hc
        refine g_iload (i := 5) dX11_fits_44 rfl ?_
        refine g_iload_n (i := 1) dX11_fits_46 rfl rfl ?_
        refine g_icmp_ge (tgt := 94) dX11_fits_47 rfl ⟨fun hc => ?_, fun hc => ?_⟩
        · replace h := h.1 hc
          exact g_sub _ (sub_c (Or.inr rfl) (sub_c (Or.inr rfl) (sub_c (Or.inl rfl) (sub_c (Or.inr rfl) (sub_c (Or.inl rfl) (sub_c (Or.inl rfl) sub_n)))))) h
        · replace h := h.2 hc
          refine g_aload_n (i := 0) dX11_fits_50 rfl rfl ?_
          refine gf_RX11_47 rfl dX11_fits_51 sh_119 ?_
          refine g_iload (i := 4) dX11_fits_54 rfl ?_
          have hv3 := h.1; replace h := h.2
          refine g_iald dX11_fits_56 sh_131 hv3 ?_
          refine g_aload_n (i := 0) dX11_fits_57 rfl rfl ?_
          refine gf_RX11_47 rfl dX11_fits_58 sh_119 ?_
          refine g_iload (i := 5) dX11_fits_61 rfl ?_
          have hv4 := h.1; replace h := h.2
          refine g_iald dX11_fits_63 sh_131 hv4 ?_
          refine g_icmp_ne (tgt := 71) dX11_fits_64 rfl ⟨fun hc => ?_, fun hc => ?_⟩
          · replace h := h.1 hc
            refine g_iconst (v := (1 : Int32)) dX11_fits_67 (by decide) ?_
            refine g_goto (tgt := 72) dX11_fits_68 rfl ?_
            exact g_sub _ (sub_c (Or.inr rfl) (sub_c (Or.inr rfl) (sub_c (Or.inl rfl) (sub_c (Or.inr rfl) (sub_c (Or.inl rfl) (sub_c (Or.inl rfl) sub_n)))))) h
          · replace h := h.2 hc
            refine g_iconst (v := (0 : Int32)) dX11_fits_71 (by decide) ?_
            exact g_sub _ (sub_c (Or.inr rfl) (sub_c (Or.inr rfl) (sub_c (Or.inl rfl) (sub_c (Or.inr rfl) (sub_c (Or.inl rfl) (sub_c (Or.inl rfl) sub_n)))))) h
theorem bX11_fits_72 {κ : gK} {M : MM} {Q : Int32 → MM → Prop} (l1 : Int32) (l3 : Int32) (s0 : Int32)
    (h : (vp_in (((3 : Int32) * l3) + (2 : Int32)) 30) ∧ ((((M 130 ((((3 : Int32) * l3) + (2 : Int32))).toNatClampNeg) = (1 : Int32) → G κ mX11_fits 91 [.ref 119, .int l1, .null, .int l3, .null, .null] [.int (1 : Int32), .int s0] M Q) ∧ (¬ (M 130 ((((3 : Int32) * l3) + (2 : Int32))).toNatClampNeg) = (1 : Int32) → G κ mX11_fits 91 [.ref 119, .int l1, .null, .int l3, .null, .null] [.int (0 : Int32), .int s0] M Q)))) :
    G κ mX11_fits 72 [.ref 119, .int l1, .null, .int l3, .null, .null] [.int s0] M Q := by
  refine g_aload_n (i := 0) dX11_fits_72 rfl rfl ?_
  refine gf_RX11_44 rfl dX11_fits_73 sh_119 ?_
  refine g_iconst (v := (3 : Int32)) dX11_fits_76 (by decide) ?_
  refine g_iload_n (i := 3) dX11_fits_77 rfl rfl ?_
  refine g_imul dX11_fits_78 ?_
  refine g_iconst (v := (2 : Int32)) dX11_fits_79 (by decide) ?_
  refine g_iadd dX11_fits_80 ?_
  have hv1 := h.1; replace h := h.2
  refine g_iald dX11_fits_81 sh_130 hv1 ?_
  refine g_iconst (v := (1 : Int32)) dX11_fits_82 (by decide) ?_
  refine g_icmp_ne (tgt := 90) dX11_fits_83 rfl ⟨fun hc => ?_, fun hc => ?_⟩
  · replace h := h.1 hc
    refine g_iconst (v := (1 : Int32)) dX11_fits_86 (by decide) ?_
    refine g_goto (tgt := 91) dX11_fits_87 rfl ?_
    exact h
  · replace h := h.2 hc
    refine g_iconst (v := (0 : Int32)) dX11_fits_90 (by decide) ?_
    exact h
theorem bX11_fits_91 {κ : gK} {M : MM} {Q : Int32 → MM → Prop} (l1 : Int32) (l3 : Int32) (s0 : Int32) (s1 : Int32)
    (h : ((s1 = s0 → G κ mX11_fits 94 [.ref 119, .int l1, .null, .int l3, .null, .null] [] M Q) ∧ (¬ s1 = s0 → G κ mX11_fits 98 [.ref 119, .int l1, .null, .int l3, .null, .null] [] M Q))) :
    G κ mX11_fits 91 [.ref 119, .int l1, .null, .int l3, .null, .null] [.int s0, .int s1] M Q := by
  refine g_icmp_ne (tgt := 98) dX11_fits_91 rfl ⟨fun hc => ?_, fun hc => ?_⟩
  · replace h := h.1 hc
    exact h
  · replace h := h.2 hc
    exact h
theorem bX11_fits_94 {κ : gK} {M : MM} {Q : Int32 → MM → Prop} (l1 : Int32) (l3 : Int32)
    (h : G κ mX11_fits 99 [.ref 119, .int l1, .null, .int l3, .null, .null] [.int (1 : Int32)] M Q) :
    G κ mX11_fits 94 [.ref 119, .int l1, .null, .int l3, .null, .null] [] M Q := by
  refine g_iconst (v := (1 : Int32)) dX11_fits_94 (by decide) ?_
  refine g_goto (tgt := 99) dX11_fits_95 rfl ?_
  exact h
theorem bX11_fits_98 {κ : gK} {M : MM} {Q : Int32 → MM → Prop} (l1 : Int32) (l3 : Int32)
    (h : G κ mX11_fits 99 [.ref 119, .int l1, .null, .int l3, .null, .null] [.int (0 : Int32)] M Q) :
    G κ mX11_fits 98 [.ref 119, .int l1, .null, .int l3, .null, .null] [] M Q := by
  refine g_iconst (v := (0 : Int32)) dX11_fits_98 (by decide) ?_
  exact h
theorem bX11_fits_99 {κ : gK} {M : MM} {Q : Int32 → MM → Prop} (l1 : Int32) (l3 : Int32) (s0 : Int32)
    (h : G κ mX11_fits 4 [.ref 119, .int l1, .int s0, .int (l3 + 1), .null, .null] [] M Q) :
    G κ mX11_fits 99 [.ref 119, .int l1, .null, .int l3, .null, .null] [.int s0] M Q := by
  refine g_istore_n (i := 2) (L' := [.ref 119, .int l1, .int s0, .int l3, .null, .null]) dX11_fits_99 rfl (Nat.le_of_ble_eq_true rfl) rfl rfl ?_
  refine g_iinc (v := (l3 + 1)) (L' := [.ref 119, .int l1, .int s0, .int (l3 + 1), .null, .null]) dX11_fits_100 rfl rfl (Nat.le_of_ble_eq_true rfl) rfl rfl ?_
  refine g_goto (tgt := 4) dX11_fits_103 rfl ?_
  exact h
theorem eX11_fits {κ : gK} {M : MM} {Q : Int32 → MM → Prop} (l1 : Int32)
    (h : G κ mX11_fits 0 [.ref 119, .int l1, .null, .null, .null, .null] [] M Q) : Cl κ mX11_fits [.ref 119, .int l1] M Q := g_entry 4 pl_X11_fits (Nat.le_of_ble_eq_true rfl) (L := [.ref 119, .int l1, .null, .null, .null, .null]) rfl (g_sub _ (sub_c (Or.inr rfl) (sub_c (Or.inr rfl) (sub_c (Or.inr rfl) (sub_c (Or.inr rfl) (sub_c (Or.inr rfl) (sub_c (Or.inr rfl) sub_n)))))) h)
theorem dX11_fitsOn_0 : decode cX11_fitsOn 0 = .ok (.iconst 0, 1) := by decide +kernel
theorem dX11_fitsOn_1 : decode cX11_fitsOn 1 = .ok (.istore_n 2, 1) := by decide +kernel
theorem dX11_fitsOn_2 : decode cX11_fitsOn 2 = .ok (.aload_n 0, 1) := by decide +kernel
theorem dX11_fitsOn_3 : decode cX11_fitsOn 3 = .ok (.getfield 47, 3) := by decide +kernel
theorem dX11_fitsOn_6 : decode cX11_fitsOn 6 = .ok (.iconst 0, 1) := by decide +kernel
theorem dX11_fitsOn_7 : decode cX11_fitsOn 7 = .ok (.iconst (-1), 1) := by decide +kernel
theorem dX11_fitsOn_8 : decode cX11_fitsOn 8 = .ok (.iastore, 1) := by decide +kernel
theorem dX11_fitsOn_9 : decode cX11_fitsOn 9 = .ok (.iload_n 2, 1) := by decide +kernel
theorem dX11_fitsOn_10 : decode cX11_fitsOn 10 = .ok (.ifCond .lt 116, 3) := by decide +kernel
theorem dX11_fitsOn_13 : decode cX11_fitsOn 13 = .ok (.iconst 0, 1) := by decide +kernel
theorem dX11_fitsOn_14 : decode cX11_fitsOn 14 = .ok (.istore_n 3, 1) := by decide +kernel
theorem dX11_fitsOn_15 : decode cX11_fitsOn 15 = .ok (.iconst 0, 1) := by decide +kernel
theorem dX11_fitsOn_16 : decode cX11_fitsOn 16 = .ok (.istore 4, 2) := by decide +kernel
theorem dX11_fitsOn_18 : decode cX11_fitsOn 18 = .ok (.iload 4, 2) := by decide +kernel
theorem dX11_fitsOn_20 : decode cX11_fitsOn 20 = .ok (.iload_n 2, 1) := by decide +kernel
theorem dX11_fitsOn_21 : decode cX11_fitsOn 21 = .ok (.if_icmp .ge 36, 3) := by decide +kernel
theorem dX11_fitsOn_24 : decode cX11_fitsOn 24 = .ok (.aload_n 0, 1) := by decide +kernel
theorem dX11_fitsOn_25 : decode cX11_fitsOn 25 = .ok (.getfield 47, 3) := by decide +kernel
theorem dX11_fitsOn_28 : decode cX11_fitsOn 28 = .ok (.iload 4, 2) := by decide +kernel
theorem dX11_fitsOn_30 : decode cX11_fitsOn 30 = .ok (.iaload, 1) := by decide +kernel
theorem dX11_fitsOn_31 : decode cX11_fitsOn 31 = .ok (.iconst 1, 1) := by decide +kernel
theorem dX11_fitsOn_32 : decode cX11_fitsOn 32 = .ok (.iadd, 1) := by decide +kernel
theorem dX11_fitsOn_33 : decode cX11_fitsOn 33 = .ok (.iload_n 3, 1) := by decide +kernel
theorem dX11_fitsOn_34 : decode cX11_fitsOn 34 = .ok (.if_icmp .le 15, 3) := by decide +kernel
theorem dX11_fitsOn_37 : decode cX11_fitsOn 37 = .ok (.aload_n 0, 1) := by decide +kernel
theorem dX11_fitsOn_38 : decode cX11_fitsOn 38 = .ok (.getfield 47, 3) := by decide +kernel
theorem dX11_fitsOn_41 : decode cX11_fitsOn 41 = .ok (.iload 4, 2) := by decide +kernel
theorem dX11_fitsOn_43 : decode cX11_fitsOn 43 = .ok (.iaload, 1) := by decide +kernel
theorem dX11_fitsOn_44 : decode cX11_fitsOn 44 = .ok (.iconst 1, 1) := by decide +kernel
theorem dX11_fitsOn_45 : decode cX11_fitsOn 45 = .ok (.iadd, 1) := by decide +kernel
theorem dX11_fitsOn_46 : decode cX11_fitsOn 46 = .ok (.goto 4, 3) := by decide +kernel
theorem dX11_fitsOn_49 : decode cX11_fitsOn 49 = .ok (.iload_n 3, 1) := by decide +kernel
theorem dX11_fitsOn_50 : decode cX11_fitsOn 50 = .ok (.istore_n 3, 1) := by decide +kernel
theorem dX11_fitsOn_51 : decode cX11_fitsOn 51 = .ok (.iinc 4 1, 3) := by decide +kernel
theorem dX11_fitsOn_54 : decode cX11_fitsOn 54 = .ok (.goto (-36), 3) := by decide +kernel
theorem dX11_fitsOn_57 : decode cX11_fitsOn 57 = .ok (.aload_n 0, 1) := by decide +kernel
theorem dX11_fitsOn_58 : decode cX11_fitsOn 58 = .ok (.getfield 47, 3) := by decide +kernel
theorem dX11_fitsOn_61 : decode cX11_fitsOn 61 = .ok (.iload_n 2, 1) := by decide +kernel
theorem dX11_fitsOn_62 : decode cX11_fitsOn 62 = .ok (.dup2, 1) := by decide +kernel
theorem dX11_fitsOn_63 : decode cX11_fitsOn 63 = .ok (.iaload, 1) := by decide +kernel
theorem dX11_fitsOn_64 : decode cX11_fitsOn 64 = .ok (.iconst 1, 1) := by decide +kernel
theorem dX11_fitsOn_65 : decode cX11_fitsOn 65 = .ok (.iadd, 1) := by decide +kernel
theorem dX11_fitsOn_66 : decode cX11_fitsOn 66 = .ok (.iastore, 1) := by decide +kernel
theorem dX11_fitsOn_67 : decode cX11_fitsOn 67 = .ok (.aload_n 0, 1) := by decide +kernel
theorem dX11_fitsOn_68 : decode cX11_fitsOn 68 = .ok (.getfield 47, 3) := by decide +kernel
theorem dX11_fitsOn_71 : decode cX11_fitsOn 71 = .ok (.iload_n 2, 1) := by decide +kernel
theorem dX11_fitsOn_72 : decode cX11_fitsOn 72 = .ok (.iaload, 1) := by decide +kernel
theorem dX11_fitsOn_73 : decode cX11_fitsOn 73 = .ok (.iload_n 3, 1) := by decide +kernel
theorem dX11_fitsOn_74 : decode cX11_fitsOn 74 = .ok (.if_icmp .gt 13, 3) := by decide +kernel
theorem dX11_fitsOn_77 : decode cX11_fitsOn 77 = .ok (.aload_n 0, 1) := by decide +kernel
theorem dX11_fitsOn_78 : decode cX11_fitsOn 78 = .ok (.getfield 47, 3) := by decide +kernel
theorem dX11_fitsOn_81 : decode cX11_fitsOn 81 = .ok (.iload_n 2, 1) := by decide +kernel
theorem dX11_fitsOn_82 : decode cX11_fitsOn 82 = .ok (.iaload, 1) := by decide +kernel
theorem dX11_fitsOn_83 : decode cX11_fitsOn 83 = .ok (.iload_n 1, 1) := by decide +kernel
theorem dX11_fitsOn_84 : decode cX11_fitsOn 84 = .ok (.if_icmp .lt 9, 3) := by decide +kernel
theorem dX11_fitsOn_87 : decode cX11_fitsOn 87 = .ok (.iinc 2 (-1), 3) := by decide +kernel
theorem dX11_fitsOn_90 : decode cX11_fitsOn 90 = .ok (.goto 33, 3) := by decide +kernel
theorem dX11_fitsOn_93 : decode cX11_fitsOn 93 = .ok (.aload_n 0, 1) := by decide +kernel
theorem dX11_fitsOn_94 : decode cX11_fitsOn 94 = .ok (.iload_n 2, 1) := by decide +kernel
theorem dX11_fitsOn_95 : decode cX11_fitsOn 95 = .ok (.iconst 1, 1) := by decide +kernel
theorem dX11_fitsOn_96 : decode cX11_fitsOn 96 = .ok (.iadd, 1) := by decide +kernel
theorem dX11_fitsOn_97 : decode cX11_fitsOn 97 = .ok (.invokevirtual 275, 3) := by decide +kernel
theorem dX11_fitsOn_100 : decode cX11_fitsOn 100 = .ok (.ifCond .eq 23, 3) := by decide +kernel
theorem dX11_fitsOn_103 : decode cX11_fitsOn 103 = .ok (.iinc 2 1, 3) := by decide +kernel
theorem dX11_fitsOn_106 : decode cX11_fitsOn 106 = .ok (.iload_n 2, 1) := by decide +kernel
theorem dX11_fitsOn_107 : decode cX11_fitsOn 107 = .ok (.aload_n 0, 1) := by decide +kernel
theorem dX11_fitsOn_108 : decode cX11_fitsOn 108 = .ok (.getfield 60, 3) := by decide +kernel
theorem dX11_fitsOn_111 : decode cX11_fitsOn 111 = .ok (.if_icmp .ne 5, 3) := by decide +kernel
theorem dX11_fitsOn_114 : decode cX11_fitsOn 114 = .ok (.iconst 1, 1) := by decide +kernel
theorem dX11_fitsOn_115 : decode cX11_fitsOn 115 = .ok (.ireturn, 1) := by decide +kernel
theorem dX11_fitsOn_116 : decode cX11_fitsOn 116 = .ok (.aload_n 0, 1) := by decide +kernel
theorem dX11_fitsOn_117 : decode cX11_fitsOn 117 = .ok (.getfield 47, 3) := by decide +kernel
theorem dX11_fitsOn_120 : decode cX11_fitsOn 120 = .ok (.iload_n 2, 1) := by decide +kernel
theorem dX11_fitsOn_121 : decode cX11_fitsOn 121 = .ok (.iconst (-1), 1) := by decide +kernel
theorem dX11_fitsOn_122 : decode cX11_fitsOn 122 = .ok (.iastore, 1) := by decide +kernel
theorem dX11_fitsOn_123 : decode cX11_fitsOn 123 = .ok (.goto (-114), 3) := by decide +kernel
theorem dX11_fitsOn_126 : decode cX11_fitsOn 126 = .ok (.iconst 0, 1) := by decide +kernel
theorem dX11_fitsOn_127 : decode cX11_fitsOn 127 = .ok (.ireturn, 1) := by decide +kernel
theorem bX11_fitsOn_0 {κ : gK} {M : MM} {Q : Int32 → MM → Prop} (l1 : Int32)
    (h : ∀ M1 : MM, M1 = (pt M 131 0 (-1 : Int32)) → (G κ mX11_fitsOn 9 [.ref 119, .int l1, .int (0 : Int32), .null, .null] [] M1 Q)) :
    G κ mX11_fitsOn 0 [.ref 119, .int l1, .null, .null, .null] [] M Q := by
  refine g_iconst (v := (0 : Int32)) dX11_fitsOn_0 (by decide) ?_
  refine g_istore_n (i := 2) (L' := [.ref 119, .int l1, .int (0 : Int32), .null, .null]) dX11_fitsOn_1 rfl (Nat.le_of_ble_eq_true rfl) rfl rfl ?_
  refine g_aload_n (i := 0) dX11_fitsOn_2 rfl rfl ?_
  refine gf_RX11_47 rfl dX11_fitsOn_3 sh_119 ?_
  refine g_iconst (v := (0 : Int32)) dX11_fitsOn_6 (by decide) ?_
  refine g_iconst (v := (-1 : Int32)) dX11_fitsOn_7 (by decide) ?_
  refine g_iastP dX11_fitsOn_8 sh_131 (by unfold vp_in; decide) ?_
  refine g_nmM (fun M1 hM1 => ?_); replace h := h M1 hM1
  exact h
theorem bX11_fitsOn_9 {κ : gK} {M : MM} {Q : Int32 → MM → Prop} (l1 : Int32) (l2 : Int32)
    (h : ((l2 < 0 → Q (0 : Int32) M) ∧ (¬ l2 < 0 → G κ mX11_fitsOn 18 [.ref 119, .int l1, .int l2, .int (0 : Int32), .int (0 : Int32)] [] M Q))) :
    G κ mX11_fitsOn 9 [.ref 119, .int l1, .int l2, .null, .null] [] M Q := by
  refine g_iload_n (i := 2) dX11_fitsOn_9 rfl rfl ?_
  refine g_if_lt (tgt := 126) dX11_fitsOn_10 rfl ⟨fun hc => ?_, fun hc => ?_⟩
  · replace h := h.1 hc
    refine g_iconst (v := (0 : Int32)) dX11_fitsOn_126 (by decide) ?_
    exact g_zret dX11_fitsOn_127 rfl rfl h
  · replace h := h.2 hc
    refine g_iconst (v := (0 : Int32)) dX11_fitsOn_13 (by decide) ?_
    refine g_istore_n (i := 3) (L' := [.ref 119, .int l1, .int l2, .int (0 : Int32), .null]) dX11_fitsOn_14 rfl (Nat.le_of_ble_eq_true rfl) rfl rfl ?_
    refine g_iconst (v := (0 : Int32)) dX11_fitsOn_15 (by decide) ?_
    refine g_istore (i := 4) (L' := [.ref 119, .int l1, .int l2, .int (0 : Int32), .int (0 : Int32)]) dX11_fitsOn_16 (Nat.le_of_ble_eq_true rfl) rfl rfl ?_
    exact h
theorem bX11_fitsOn_18 {κ : gK} {M : MM} {Q : Int32 → MM → Prop} (l1 : Int32) (l2 : Int32) (l3 : Int32) (l4 : Int32)
    (h : ((l2 ≤ l4 → (vp_in l2 8) ∧ (∀ M1 : MM, M1 = (pt M 131 (l2).toNatClampNeg ((M 131 (l2).toNatClampNeg) + (1 : Int32))) → (((l3 < (M1 131 (l2).toNatClampNeg) → G κ mX11_fitsOn 87 [.ref 119, .int l1, .int l2, .null, .null] [] M1 Q) ∧ (¬ l3 < (M1 131 (l2).toNatClampNeg) → (((M1 131 (l2).toNatClampNeg) < l1 → Cl κ mX11_fits [.ref 119, .int (l2 + (1 : Int32))] M1 (fun r2 M2 => ((r2 = 0 → G κ mX11_fitsOn 123 [.ref 119, .int l1, .int l2, .null, .null] [] M2 Q) ∧ (¬ r2 = 0 → (((l2 + 1) = (M2 119 2) → Q (1 : Int32) M2) ∧ (¬ (l2 + 1) = (M2 119 2) → (vp_in (l2 + 1) 8) ∧ (∀ M3 : MM, M3 = (pt M2 131 ((l2 + 1)).toNatClampNeg (-1 : Int32)) → (G κ mX11_fitsOn 123 [.ref 119, .int l1, .int (l2 + 1), .null, .null] [] M3 Q)))))))) ∧ (¬ (M1 131 (l2).toNatClampNeg) < l1 → G κ mX11_fitsOn 87 [.ref 119, .int l1, .int l2, .null, .null] [] M1 Q))))))) ∧ (¬ l2 ≤ l4 → (vp_in l4 8) ∧ (((((M 131 (l4).toNatClampNeg) + (1 : Int32)) ≤ l3 → G κ mX11_fitsOn 50 [.ref 119, .int l1, .int l2, .null, .int l4] [.int l3] M Q) ∧ (¬ ((M 131 (l4).toNatClampNeg) + (1 : Int32)) ≤ l3 → G κ mX11_fitsOn 50 [.ref 119, .int l1, .int l2, .null, .int l4] [.int ((M 131 (l4).toNatClampNeg) + (1 : Int32))] M Q)))))) :
    G κ mX11_fitsOn 18 [.ref 119, .int l1, .int l2, .int l3, .int l4] [] M Q := by
  refine g_iload (i := 4) dX11_fitsOn_18 rfl ?_
  refine g_iload_n (i := 2) dX11_fitsOn_20 rfl rfl ?_
  refine g_icmp_ge (tgt := 57) dX11_fitsOn_21 rfl ⟨fun hc => ?_, fun hc => ?_⟩
  · replace h := h.1 hc
    refine g_aload_n (i := 0) dX11_fitsOn_57 rfl rfl ?_
    refine gf_RX11_47 rfl dX11_fitsOn_58 sh_119 ?_
    refine g_iload_n (i := 2) dX11_fitsOn_61 rfl rfl ?_
    refine g_dup2 dX11_fitsOn_62 rfl rfl ?_
    have hv1 := h.1; replace h := h.2
    refine g_iald dX11_fitsOn_63 sh_131 hv1 ?_
    refine g_iconst (v := (1 : Int32)) dX11_fitsOn_64 (by decide) ?_
    refine g_iadd dX11_fitsOn_65 ?_
    refine g_iastP dX11_fitsOn_66 sh_131 hv1 ?_
    refine g_nmM (fun M1 hM1 => ?_); replace h := h M1 hM1
    refine g_aload_n (i := 0) dX11_fitsOn_67 rfl rfl ?_
    refine gf_RX11_47 rfl dX11_fitsOn_68 sh_119 ?_
    refine g_iload_n (i := 2) dX11_fitsOn_71 rfl rfl ?_
    refine g_iald dX11_fitsOn_72 sh_131 hv1 ?_
    refine g_iload_n (i := 3) dX11_fitsOn_73 rfl rfl ?_
    refine g_icmp_gt (tgt := 87) dX11_fitsOn_74 rfl ⟨fun hc => ?_, fun hc => ?_⟩
    · replace h := h.1 hc
      exact g_sub _ (sub_c (Or.inr rfl) (sub_c (Or.inr rfl) (sub_c (Or.inr rfl) (sub_c (Or.inl rfl) (sub_c (Or.inl rfl) sub_n))))) h
    · replace h := h.2 hc
      refine g_aload_n (i := 0) dX11_fitsOn_77 rfl rfl ?_
      refine gf_RX11_47 rfl dX11_fitsOn_78 sh_119 ?_
      refine g_iload_n (i := 2) dX11_fitsOn_81 rfl rfl ?_
      refine g_iald dX11_fitsOn_82 sh_131 hv1 ?_
      refine g_iload_n (i := 1) dX11_fitsOn_83 rfl rfl ?_
      refine g_icmp_lt (tgt := 93) dX11_fitsOn_84 rfl ⟨fun hc => ?_, fun hc => ?_⟩
      · replace h := h.1 hc
        refine g_aload_n (i := 0) dX11_fitsOn_93 rfl rfl ?_
        refine g_iload_n (i := 2) dX11_fitsOn_94 rfl rfl ?_
        refine g_iconst (v := (1 : Int32)) dX11_fitsOn_95 (by decide) ?_
        refine g_iadd dX11_fitsOn_96 ?_
        refine gc_RX11_275 rfl (Nat.le_of_ble_eq_true rfl) dX11_fitsOn_97 sh_119 (Nat.le_of_ble_eq_true rfl) ?_
        refine Cl.mono h (fun r2 M2 h => ?_)
        refine g_if_eq (tgt := 123) dX11_fitsOn_100 rfl ⟨fun hc => ?_, fun hc => ?_⟩
        · replace h := h.1 hc
          exact g_sub _ (sub_c (Or.inr rfl) (sub_c (Or.inr rfl) (sub_c (Or.inr rfl) (sub_c (Or.inl rfl) (sub_c (Or.inl rfl) sub_n))))) h
        · replace h := h.2 hc
          refine g_iinc (v := (l2 + 1)) (L' := [.ref 119, .int l1, .int (l2 + 1), .int l3, .int l4]) dX11_fitsOn_103 rfl rfl (Nat.le_of_ble_eq_true rfl) rfl rfl ?_
          refine g_iload_n (i := 2) dX11_fitsOn_106 rfl rfl ?_
          refine g_aload_n (i := 0) dX11_fitsOn_107 rfl rfl ?_
          refine gf_RX11_60 rfl dX11_fitsOn_108 sh_119 ?_
          refine g_icmp_ne (tgt := 116) dX11_fitsOn_111 rfl ⟨fun hc => ?_, fun hc => ?_⟩
          · replace h := h.1 hc
            refine g_iconst (v := (1 : Int32)) dX11_fitsOn_114 (by decide) ?_
            exact g_zret dX11_fitsOn_115 rfl rfl h
          · replace h := h.2 hc
            refine g_aload_n (i := 0) dX11_fitsOn_116 rfl rfl ?_
            refine gf_RX11_47 rfl dX11_fitsOn_117 sh_119 ?_
            refine g_iload_n (i := 2) dX11_fitsOn_120 rfl rfl ?_
            refine g_iconst (v := (-1 : Int32)) dX11_fitsOn_121 (by decide) ?_
            have hv2 := h.1; replace h := h.2
            refine g_iastP dX11_fitsOn_122 sh_131 hv2 ?_
            refine g_nmM (fun M3 hM3 => ?_); replace h := h M3 hM3
            exact g_sub _ (sub_c (Or.inr rfl) (sub_c (Or.inr rfl) (sub_c (Or.inr rfl) (sub_c (Or.inl rfl) (sub_c (Or.inl rfl) sub_n))))) h
      · replace h := h.2 hc
        exact g_sub _ (sub_c (Or.inr rfl) (sub_c (Or.inr rfl) (sub_c (Or.inr rfl) (sub_c (Or.inl rfl) (sub_c (Or.inl rfl) sub_n))))) h
  · replace h := h.2 hc
    refine g_aload_n (i := 0) dX11_fitsOn_24 rfl rfl ?_
    refine gf_RX11_47 rfl dX11_fitsOn_25 sh_119 ?_
    refine g_iload (i := 4) dX11_fitsOn_28 rfl ?_
    have hv3 := h.1; replace h := h.2
    refine g_iald dX11_fitsOn_30 sh_131 hv3 ?_
    refine g_iconst (v := (1 : Int32)) dX11_fitsOn_31 (by decide) ?_
    refine g_iadd dX11_fitsOn_32 ?_
    refine g_iload_n (i := 3) dX11_fitsOn_33 rfl rfl ?_
    refine g_icmp_le (tgt := 49) dX11_fitsOn_34 rfl ⟨fun hc => ?_, fun hc => ?_⟩
    · replace h := h.1 hc
      refine g_iload_n (i := 3) dX11_fitsOn_49 rfl rfl ?_
      exact g_sub _ (sub_c (Or.inr rfl) (sub_c (Or.inr rfl) (sub_c (Or.inr rfl) (sub_c (Or.inl rfl) (sub_c (Or.inr rfl) sub_n))))) h
    · replace h := h.2 hc
      refine g_aload_n (i := 0) dX11_fitsOn_37 rfl rfl ?_
      refine gf_RX11_47 rfl dX11_fitsOn_38 sh_119 ?_
      refine g_iload (i := 4) dX11_fitsOn_41 rfl ?_
      refine g_iald dX11_fitsOn_43 sh_131 hv3 ?_
      refine g_iconst (v := (1 : Int32)) dX11_fitsOn_44 (by decide) ?_
      refine g_iadd dX11_fitsOn_45 ?_
      refine g_goto (tgt := 50) dX11_fitsOn_46 rfl ?_
      exact g_sub _ (sub_c (Or.inr rfl) (sub_c (Or.inr rfl) (sub_c (Or.inr rfl) (sub_c (Or.inl rfl) (sub_c (Or.inr rfl) sub_n))))) h
theorem bX11_fitsOn_50 {κ : gK} {M : MM} {Q : Int32 → MM → Prop} (l1 : Int32) (l2 : Int32) (l4 : Int32) (s0 : Int32)
    (h : G κ mX11_fitsOn 18 [.ref 119, .int l1, .int l2, .int s0, .int (l4 + 1)] [] M Q) :
    G κ mX11_fitsOn 50 [.ref 119, .int l1, .int l2, .null, .int l4] [.int s0] M Q := by
  refine g_istore_n (i := 3) (L' := [.ref 119, .int l1, .int l2, .int s0, .int l4]) dX11_fitsOn_50 rfl (Nat.le_of_ble_eq_true rfl) rfl rfl ?_
  refine g_iinc (v := (l4 + 1)) (L' := [.ref 119, .int l1, .int l2, .int s0, .int (l4 + 1)]) dX11_fitsOn_51 rfl rfl (Nat.le_of_ble_eq_true rfl) rfl rfl ?_
  refine g_goto (tgt := 18) dX11_fitsOn_54 rfl ?_
  exact h
theorem bX11_fitsOn_87 {κ : gK} {M : MM} {Q : Int32 → MM → Prop} (l1 : Int32) (l2 : Int32)
    (h : G κ mX11_fitsOn 123 [.ref 119, .int l1, .int (l2 + (-1)), .null, .null] [] M Q) :
    G κ mX11_fitsOn 87 [.ref 119, .int l1, .int l2, .null, .null] [] M Q := by
  refine g_iinc (v := (l2 + (-1))) (L' := [.ref 119, .int l1, .int (l2 + (-1)), .null, .null]) dX11_fitsOn_87 rfl rfl (Nat.le_of_ble_eq_true rfl) rfl rfl ?_
  refine g_goto (tgt := 123) dX11_fitsOn_90 rfl ?_
  exact h
theorem bX11_fitsOn_123 {κ : gK} {M : MM} {Q : Int32 → MM → Prop} (l1 : Int32) (l2 : Int32)
    (h : G κ mX11_fitsOn 9 [.ref 119, .int l1, .int l2, .null, .null] [] M Q) :
    G κ mX11_fitsOn 123 [.ref 119, .int l1, .int l2, .null, .null] [] M Q := by
  refine g_goto (tgt := 9) dX11_fitsOn_123 rfl ?_
  exact h
theorem eX11_fitsOn {κ : gK} {M : MM} {Q : Int32 → MM → Prop} (l1 : Int32)
    (h : G κ mX11_fitsOn 0 [.ref 119, .int l1, .null, .null, .null] [] M Q) : Cl κ mX11_fitsOn [.ref 119, .int l1] M Q := g_entry 3 pl_X11_fitsOn (Nat.le_of_ble_eq_true rfl) (L := [.ref 119, .int l1, .null, .null, .null]) rfl (g_sub _ (sub_c (Or.inr rfl) (sub_c (Or.inr rfl) (sub_c (Or.inr rfl) (sub_c (Or.inr rfl) (sub_c (Or.inr rfl) sub_n))))) h)
theorem dX11_explained_0 : decode cX11_explained 0 = .ok (.aload_n 0, 1) := by decide +kernel
theorem dX11_explained_1 : decode cX11_explained 1 = .ok (.getfield 60, 3) := by decide +kernel
theorem dX11_explained_4 : decode cX11_explained 4 = .ok (.ifCond .ne 7, 3) := by decide +kernel
theorem dX11_explained_7 : decode cX11_explained 7 = .ok (.iconst 0, 1) := by decide +kernel
theorem dX11_explained_8 : decode cX11_explained 8 = .ok (.goto 4, 3) := by decide +kernel
theorem dX11_explained_11 : decode cX11_explained 11 = .ok (.iconst (-1), 1) := by decide +kernel
theorem dX11_explained_12 : decode cX11_explained 12 = .ok (.istore_n 1, 1) := by decide +kernel
theorem dX11_explained_13 : decode cX11_explained 13 = .ok (.iconst 1, 1) := by decide +kernel
theorem dX11_explained_14 : decode cX11_explained 14 = .ok (.istore_n 2, 1) := by decide +kernel
theorem dX11_explained_15 : decode cX11_explained 15 = .ok (.iload_n 2, 1) := by decide +kernel
theorem dX11_explained_16 : decode cX11_explained 16 = .ok (.aload_n 0, 1) := by decide +kernel
theorem dX11_explained_17 : decode cX11_explained 17 = .ok (.getfield 60, 3) := by decide +kernel
theorem dX11_explained_20 : decode cX11_explained 20 = .ok (.if_icmp .gt 28, 3) := by decide +kernel
theorem dX11_explained_23 : decode cX11_explained 23 = .ok (.iload_n 1, 1) := by decide +kernel
theorem dX11_explained_24 : decode cX11_explained 24 = .ok (.iconst (-1), 1) := by decide +kernel
theorem dX11_explained_25 : decode cX11_explained 25 = .ok (.if_icmp .ne 23, 3) := by decide +kernel
theorem dX11_explained_28 : decode cX11_explained 28 = .ok (.aload_n 0, 1) := by decide +kernel
theorem dX11_explained_29 : decode cX11_explained 29 = .ok (.iload_n 2, 1) := by decide +kernel
theorem dX11_explained_30 : decode cX11_explained 30 = .ok (.invokevirtual 278, 3) := by decide +kernel
theorem dX11_explained_33 : decode cX11_explained 33 = .ok (.ifCond .eq 7, 3) := by decide +kernel
theorem dX11_explained_36 : decode cX11_explained 36 = .ok (.iload_n 2, 1) := by decide +kernel
theorem dX11_explained_37 : decode cX11_explained 37 = .ok (.goto 4, 3) := by decide +kernel
theorem dX11_explained_40 : decode cX11_explained 40 = .ok (.iconst (-1), 1) := by decide +kernel
theorem dX11_explained_41 : decode cX11_explained 41 = .ok (.istore_n 1, 1) := by decide +kernel
theorem dX11_explained_42 : decode cX11_explained 42 = .ok (.iinc 2 1, 3) := by decide +kernel
theorem dX11_explained_45 : decode cX11_explained 45 = .ok (.goto (-30), 3) := by decide +kernel
theorem dX11_explained_48 : decode cX11_explained 48 = .ok (.iload_n 1, 1) := by decide +kernel
theorem dX11_explained_49 : decode cX11_explained 49 = .ok (.ireturn, 1) := by decide +kernel
theorem bX11_explained_0 {κ : gK} {M : MM} {Q : Int32 → MM → Prop} 
    (h : (((M 119 2) = 0 → G κ mX11_explained 12 [.ref 119, .null, .null] [.int (0 : Int32)] M Q) ∧ (¬ (M 119 2) = 0 → G κ mX11_explained 12 [.ref 119, .null, .null] [.int (-1 : Int32)] M Q))) :
    G κ mX11_explained 0 [.ref 119, .null, .null] [] M Q := by
  refine g_aload_n (i := 0) dX11_explained_0 rfl rfl ?_
  refine gf_RX11_60 rfl dX11_explained_1 sh_119 ?_
  refine g_if_ne (tgt := 11) dX11_explained_4 rfl ⟨fun hc => ?_, fun hc => ?_⟩
  · replace h := h.1 hc
    refine g_iconst (v := (0 : Int32)) dX11_explained_7 (by decide) ?_
    refine g_goto (tgt := 12) dX11_explained_8 rfl ?_
    exact h
  · replace h := h.2 hc
    refine g_iconst (v := (-1 : Int32)) dX11_explained_11 (by decide) ?_
    exact h
theorem bX11_explained_12 {κ : gK} {M : MM} {Q : Int32 → MM → Prop} (s0 : Int32)
    (h : G κ mX11_explained 15 [.ref 119, .int s0, .int (1 : Int32)] [] M Q) :
    G κ mX11_explained 12 [.ref 119, .null, .null] [.int s0] M Q := by
  refine g_istore_n (i := 1) (L' := [.ref 119, .int s0, .null]) dX11_explained_12 rfl (Nat.le_of_ble_eq_true rfl) rfl rfl ?_
  refine g_iconst (v := (1 : Int32)) dX11_explained_13 (by decide) ?_
  refine g_istore_n (i := 2) (L' := [.ref 119, .int s0, .int (1 : Int32)]) dX11_explained_14 rfl (Nat.le_of_ble_eq_true rfl) rfl rfl ?_
  exact h
theorem bX11_explained_15 {κ : gK} {M : MM} {Q : Int32 → MM → Prop} (l1 : Int32) (l2 : Int32)
    (h : (((M 119 2) < l2 → G κ mX11_explained 48 [.null, .int l1, .null] [] M Q) ∧ (¬ (M 119 2) < l2 → ((l1 = (-1 : Int32) → Cl κ mX11_fitsOn [.ref 119, .int l2] M (fun r1 M1 => ((r1 = 0 → G κ mX11_explained 41 [.ref 119, .null, .int l2] [.int (-1 : Int32)] M1 Q) ∧ (¬ r1 = 0 → G κ mX11_explained 41 [.ref 119, .null, .int l2] [.int l2] M1 Q)))) ∧ (¬ l1 = (-1 : Int32) → G κ mX11_explained 48 [.null, .int l1, .null] [] M Q))))) :
    G κ mX11_explained 15 [.ref 119, .int l1, .int l2] [] M Q := by
  refine g_iload_n (i := 2) dX11_explained_15 rfl rfl ?_
  refine g_aload_n (i := 0) dX11_explained_16 rfl rfl ?_
  refine gf_RX11_60 rfl dX11_explained_17 sh_119 ?_
  refine g_icmp_gt (tgt := 48) dX11_explained_20 rfl ⟨fun hc => ?_, fun hc => ?_⟩
  · replace h := h.1 hc
    exact g_sub _ (sub_c (Or.inl rfl) (sub_c (Or.inr rfl) (sub_c (Or.inl rfl) sub_n))) h
  · replace h := h.2 hc
    refine g_iload_n (i := 1) dX11_explained_23 rfl rfl ?_
    refine g_iconst (v := (-1 : Int32)) dX11_explained_24 (by decide) ?_
    refine g_icmp_ne (tgt := 48) dX11_explained_25 rfl ⟨fun hc => ?_, fun hc => ?_⟩
    · replace h := h.1 hc
      refine g_aload_n (i := 0) dX11_explained_28 rfl rfl ?_
      refine g_iload_n (i := 2) dX11_explained_29 rfl rfl ?_
      refine gc_RX11_278 rfl (Nat.le_of_ble_eq_true rfl) dX11_explained_30 sh_119 (Nat.le_of_ble_eq_true rfl) ?_
      refine Cl.mono h (fun r1 M1 h => ?_)
      refine g_if_eq (tgt := 40) dX11_explained_33 rfl ⟨fun hc => ?_, fun hc => ?_⟩
      · replace h := h.1 hc
        refine g_iconst (v := (-1 : Int32)) dX11_explained_40 (by decide) ?_
        exact g_sub _ (sub_c (Or.inr rfl) (sub_c (Or.inl rfl) (sub_c (Or.inr rfl) sub_n))) h
      · replace h := h.2 hc
        refine g_iload_n (i := 2) dX11_explained_36 rfl rfl ?_
        refine g_goto (tgt := 41) dX11_explained_37 rfl ?_
        exact g_sub _ (sub_c (Or.inr rfl) (sub_c (Or.inl rfl) (sub_c (Or.inr rfl) sub_n))) h
    · replace h := h.2 hc
      exact g_sub _ (sub_c (Or.inl rfl) (sub_c (Or.inr rfl) (sub_c (Or.inl rfl) sub_n))) h
theorem bX11_explained_41 {κ : gK} {M : MM} {Q : Int32 → MM → Prop} (l2 : Int32) (s0 : Int32)
    (h : G κ mX11_explained 15 [.ref 119, .int s0, .int (l2 + 1)] [] M Q) :
    G κ mX11_explained 41 [.ref 119, .null, .int l2] [.int s0] M Q := by
  refine g_istore_n (i := 1) (L' := [.ref 119, .int s0, .int l2]) dX11_explained_41 rfl (Nat.le_of_ble_eq_true rfl) rfl rfl ?_
  refine g_iinc (v := (l2 + 1)) (L' := [.ref 119, .int s0, .int (l2 + 1)]) dX11_explained_42 rfl rfl (Nat.le_of_ble_eq_true rfl) rfl rfl ?_
  refine g_goto (tgt := 15) dX11_explained_45 rfl ?_
  exact h
theorem bX11_explained_48 {κ : gK} {M : MM} {Q : Int32 → MM → Prop} (l1 : Int32)
    (h : Q l1 M) :
    G κ mX11_explained 48 [.null, .int l1, .null] [] M Q := by
  refine g_iload_n (i := 1) dX11_explained_48 rfl rfl ?_
  exact g_iret dX11_explained_49 rfl h
theorem eX11_explained {κ : gK} {M : MM} {Q : Int32 → MM → Prop} 
    (h : G κ mX11_explained 0 [.ref 119, .null, .null] [] M Q) : Cl κ mX11_explained [.ref 119] M Q := g_entry 2 pl_X11_explained (Nat.le_of_ble_eq_true rfl) (L := [.ref 119, .null, .null]) rfl (g_sub _ (sub_c (Or.inr rfl) (sub_c (Or.inr rfl) (sub_c (Or.inr rfl) sub_n))) h)
theorem dX11_write_0 : decode cX11_write 0 = .ok (.aload_n 0, 1) := by decide +kernel
theorem dX11_write_1 : decode cX11_write 1 = .ok (.iload_n 1, 1) := by decide +kernel
theorem dX11_write_2 : decode cX11_write 2 = .ok (.invokevirtual 195, 3) := by decide +kernel
theorem dX11_write_5 : decode cX11_write 5 = .ok (.ifCond .eq 11, 3) := by decide +kernel
theorem dX11_write_8 : decode cX11_write 8 = .ok (.aload_n 0, 1) := by decide +kernel
theorem dX11_write_9 : decode cX11_write 9 = .ok (.iload_n 2, 1) := by decide +kernel
theorem dX11_write_10 : decode cX11_write 10 = .ok (.invokevirtual 203, 3) := by decide +kernel
theorem dX11_write_13 : decode cX11_write 13 = .ok (.ifCond .ne 6, 3) := by decide +kernel
theorem dX11_write_16 : decode cX11_write 16 = .ok (.ldc 199, 2) := by decide +kernel
theorem dX11_write_18 : decode cX11_write 18 = .ok (.ireturn, 1) := by decide +kernel
theorem dX11_write_19 : decode cX11_write 19 = .ok (.aload_n 0, 1) := by decide +kernel
theorem dX11_write_20 : decode cX11_write 20 = .ok (.getfield 173, 3) := by decide +kernel
theorem dX11_write_23 : decode cX11_write 23 = .ok (.bipush 15, 2) := by decide +kernel
theorem dX11_write_25 : decode cX11_write 25 = .ok (.if_icmp .ne 6, 3) := by decide +kernel
theorem dX11_write_28 : decode cX11_write 28 = .ok (.ldc 116, 2) := by decide +kernel
theorem dX11_write_30 : decode cX11_write 30 = .ok (.ireturn, 1) := by decide +kernel
theorem dX11_write_31 : decode cX11_write 31 = .ok (.aload_n 0, 1) := by decide +kernel
theorem dX11_write_32 : decode cX11_write 32 = .ok (.getfield 50, 3) := by decide +kernel
theorem dX11_write_35 : decode cX11_write 35 = .ok (.iconst 3, 1) := by decide +kernel
theorem dX11_write_36 : decode cX11_write 36 = .ok (.aload_n 0, 1) := by decide +kernel
theorem dX11_write_37 : decode cX11_write 37 = .ok (.getfield 173, 3) := by decide +kernel
theorem dX11_write_40 : decode cX11_write 40 = .ok (.imul, 1) := by decide +kernel
theorem dX11_write_41 : decode cX11_write 41 = .ok (.iload_n 1, 1) := by decide +kernel
theorem dX11_write_42 : decode cX11_write 42 = .ok (.iastore, 1) := by decide +kernel
theorem dX11_write_43 : decode cX11_write 43 = .ok (.aload_n 0, 1) := by decide +kernel
theorem dX11_write_44 : decode cX11_write 44 = .ok (.getfield 50, 3) := by decide +kernel
theorem dX11_write_47 : decode cX11_write 47 = .ok (.iconst 3, 1) := by decide +kernel
theorem dX11_write_48 : decode cX11_write 48 = .ok (.aload_n 0, 1) := by decide +kernel
theorem dX11_write_49 : decode cX11_write 49 = .ok (.getfield 173, 3) := by decide +kernel
theorem dX11_write_52 : decode cX11_write 52 = .ok (.imul, 1) := by decide +kernel
theorem dX11_write_53 : decode cX11_write 53 = .ok (.iconst 1, 1) := by decide +kernel
theorem dX11_write_54 : decode cX11_write 54 = .ok (.iadd, 1) := by decide +kernel
theorem dX11_write_55 : decode cX11_write 55 = .ok (.iload_n 2, 1) := by decide +kernel
theorem dX11_write_56 : decode cX11_write 56 = .ok (.iastore, 1) := by decide +kernel
theorem dX11_write_57 : decode cX11_write 57 = .ok (.aload_n 0, 1) := by decide +kernel
theorem dX11_write_58 : decode cX11_write 58 = .ok (.getfield 50, 3) := by decide +kernel
theorem dX11_write_61 : decode cX11_write 61 = .ok (.iconst 3, 1) := by decide +kernel
theorem dX11_write_62 : decode cX11_write 62 = .ok (.aload_n 0, 1) := by decide +kernel
theorem dX11_write_63 : decode cX11_write 63 = .ok (.getfield 173, 3) := by decide +kernel
theorem dX11_write_66 : decode cX11_write 66 = .ok (.imul, 1) := by decide +kernel
theorem dX11_write_67 : decode cX11_write 67 = .ok (.iconst 2, 1) := by decide +kernel
theorem dX11_write_68 : decode cX11_write 68 = .ok (.iadd, 1) := by decide +kernel
theorem dX11_write_69 : decode cX11_write 69 = .ok (.iload_n 3, 1) := by decide +kernel
theorem dX11_write_70 : decode cX11_write 70 = .ok (.ifCond .eq 7, 3) := by decide +kernel
theorem dX11_write_73 : decode cX11_write 73 = .ok (.iconst 1, 1) := by decide +kernel
theorem dX11_write_74 : decode cX11_write 74 = .ok (.goto 4, 3) := by decide +kernel
theorem dX11_write_77 : decode cX11_write 77 = .ok (.iconst 0, 1) := by decide +kernel
theorem dX11_write_78 : decode cX11_write 78 = .ok (.iastore, 1) := by decide +kernel
theorem dX11_write_79 : decode cX11_write 79 = .ok (.aload_n 0, 1) := by decide +kernel
theorem dX11_write_80 : decode cX11_write 80 = .ok (.dup, 1) := by decide +kernel
theorem dX11_write_81 : decode cX11_write 81 = .ok (.getfield 173, 3) := by decide +kernel
theorem dX11_write_84 : decode cX11_write 84 = .ok (.iconst 1, 1) := by decide +kernel
theorem dX11_write_85 : decode cX11_write 85 = .ok (.iadd, 1) := by decide +kernel
theorem dX11_write_86 : decode cX11_write 86 = .ok (.putfield 173, 3) := by decide +kernel
theorem dX11_write_89 : decode cX11_write 89 = .ok (.aload_n 0, 1) := by decide +kernel
theorem dX11_write_90 : decode cX11_write 90 = .ok (.getfield 173, 3) := by decide +kernel
theorem dX11_write_93 : decode cX11_write 93 = .ok (.ireturn, 1) := by decide +kernel
theorem bX11_write_0 {κ : gK} {M : MM} {Q : Int32 → MM → Prop} (l1 : Int32) (l2 : Int32) (l3 : Int32)
    (h : Cl κ mX11_isPerson [.ref 119, .int l1] M (fun r1 M1 => ((r1 = 0 → G κ mX11_write 16 [.null, .null, .null, .null] [] M1 Q) ∧ (¬ r1 = 0 → Cl κ mX11_isLayer [.ref 119, .int l2] M1 (fun r2 M2 => ((r2 = 0 → G κ mX11_write 16 [.null, .null, .null, .null] [] M2 Q) ∧ (¬ r2 = 0 → (((M2 119 29) = (15 : Int32) → Q (-1000000004 : Int32) M2) ∧ (¬ (M2 119 29) = (15 : Int32) → (vp_in ((3 : Int32) * (M2 119 29)) 45) ∧ (∀ M3 : MM, M3 = (pt M2 132 (((3 : Int32) * (M2 119 29))).toNatClampNeg l1) → ((vp_in (((3 : Int32) * (M3 119 29)) + (1 : Int32)) 45) ∧ (∀ M4 : MM, M4 = (pt M3 132 ((((3 : Int32) * (M3 119 29)) + (1 : Int32))).toNatClampNeg l2) → (((l3 = 0 → G κ mX11_write 78 [.ref 119, .null, .null, .null] [.int (0 : Int32), .int (((3 : Int32) * (M4 119 29)) + (2 : Int32)), .ref 132] M4 Q) ∧ (¬ l3 = 0 → G κ mX11_write 78 [.ref 119, .null, .null, .null] [.int (1 : Int32), .int (((3 : Int32) * (M4 119 29)) + (2 : Int32)), .ref 132] M4 Q))))))))))))))) :
    G κ mX11_write 0 [.ref 119, .int l1, .int l2, .int l3] [] M Q := by
  refine g_aload_n (i := 0) dX11_write_0 rfl rfl ?_
  refine g_iload_n (i := 1) dX11_write_1 rfl rfl ?_
  refine gc_RX11_195 rfl (Nat.le_of_ble_eq_true rfl) dX11_write_2 sh_119 (Nat.le_of_ble_eq_true rfl) ?_
  refine Cl.mono h (fun r1 M1 h => ?_)
  refine g_if_eq (tgt := 16) dX11_write_5 rfl ⟨fun hc => ?_, fun hc => ?_⟩
  · replace h := h.1 hc
    exact g_sub _ (sub_c (Or.inl rfl) (sub_c (Or.inl rfl) (sub_c (Or.inl rfl) (sub_c (Or.inl rfl) sub_n)))) h
  · replace h := h.2 hc
    refine g_aload_n (i := 0) dX11_write_8 rfl rfl ?_
    refine g_iload_n (i := 2) dX11_write_9 rfl rfl ?_
    refine gc_RX11_203 rfl (Nat.le_of_ble_eq_true rfl) dX11_write_10 sh_119 (Nat.le_of_ble_eq_true rfl) ?_
    refine Cl.mono h (fun r2 M2 h => ?_)
    refine g_if_ne (tgt := 19) dX11_write_13 rfl ⟨fun hc => ?_, fun hc => ?_⟩
    · replace h := h.1 hc
      exact g_sub _ (sub_c (Or.inl rfl) (sub_c (Or.inl rfl) (sub_c (Or.inl rfl) (sub_c (Or.inl rfl) sub_n)))) h
    · replace h := h.2 hc
      refine g_aload_n (i := 0) dX11_write_19 rfl rfl ?_
      refine gf_RX11_173 rfl dX11_write_20 sh_119 ?_
      refine g_bipush (v := (15 : Int32)) dX11_write_23 (by decide) ?_
      refine g_icmp_ne (tgt := 31) dX11_write_25 rfl ⟨fun hc => ?_, fun hc => ?_⟩
      · replace h := h.1 hc
        refine g_ldc dX11_write_28 wt_874 ?_
        exact g_iret dX11_write_30 rfl h
      · replace h := h.2 hc
        refine g_aload_n (i := 0) dX11_write_31 rfl rfl ?_
        refine gf_RX11_50 rfl dX11_write_32 sh_119 ?_
        refine g_iconst (v := (3 : Int32)) dX11_write_35 (by decide) ?_
        refine g_aload_n (i := 0) dX11_write_36 rfl rfl ?_
        refine gf_RX11_173 rfl dX11_write_37 sh_119 ?_
        refine g_imul dX11_write_40 ?_
        refine g_iload_n (i := 1) dX11_write_41 rfl rfl ?_
        have hv1 := h.1; replace h := h.2
        refine g_iastP dX11_write_42 sh_132 hv1 ?_
        refine g_nmM (fun M3 hM3 => ?_); replace h := h M3 hM3
        refine g_aload_n (i := 0) dX11_write_43 rfl rfl ?_
        refine gf_RX11_50 rfl dX11_write_44 sh_119 ?_
        refine g_iconst (v := (3 : Int32)) dX11_write_47 (by decide) ?_
        refine g_aload_n (i := 0) dX11_write_48 rfl rfl ?_
        refine gf_RX11_173 rfl dX11_write_49 sh_119 ?_
        refine g_imul dX11_write_52 ?_
        refine g_iconst (v := (1 : Int32)) dX11_write_53 (by decide) ?_
        refine g_iadd dX11_write_54 ?_
        refine g_iload_n (i := 2) dX11_write_55 rfl rfl ?_
        have hv2 := h.1; replace h := h.2
        refine g_iastP dX11_write_56 sh_132 hv2 ?_
        refine g_nmM (fun M4 hM4 => ?_); replace h := h M4 hM4
        refine g_aload_n (i := 0) dX11_write_57 rfl rfl ?_
        refine gf_RX11_50 rfl dX11_write_58 sh_119 ?_
        refine g_iconst (v := (3 : Int32)) dX11_write_61 (by decide) ?_
        refine g_aload_n (i := 0) dX11_write_62 rfl rfl ?_
        refine gf_RX11_173 rfl dX11_write_63 sh_119 ?_
        refine g_imul dX11_write_66 ?_
        refine g_iconst (v := (2 : Int32)) dX11_write_67 (by decide) ?_
        refine g_iadd dX11_write_68 ?_
        refine g_iload_n (i := 3) dX11_write_69 rfl rfl ?_
        refine g_if_eq (tgt := 77) dX11_write_70 rfl ⟨fun hc => ?_, fun hc => ?_⟩
        · replace h := h.1 hc
          refine g_iconst (v := (0 : Int32)) dX11_write_77 (by decide) ?_
          exact g_sub _ (sub_c (Or.inr rfl) (sub_c (Or.inl rfl) (sub_c (Or.inl rfl) (sub_c (Or.inl rfl) sub_n)))) h
        · replace h := h.2 hc
          refine g_iconst (v := (1 : Int32)) dX11_write_73 (by decide) ?_
          refine g_goto (tgt := 78) dX11_write_74 rfl ?_
          exact g_sub _ (sub_c (Or.inr rfl) (sub_c (Or.inl rfl) (sub_c (Or.inl rfl) (sub_c (Or.inl rfl) sub_n)))) h
theorem bX11_write_16 {κ : gK} {M : MM} {Q : Int32 → MM → Prop} 
    (h : Q (-1000000001 : Int32) M) :
    G κ mX11_write 16 [.null, .null, .null, .null] [] M Q := by
  refine g_ldc dX11_write_16 wt_984 ?_
  exact g_iret dX11_write_18 rfl h
theorem bX11_write_78 {κ : gK} {M : MM} {Q : Int32 → MM → Prop} (s0 : Int32) (s1 : Int32)
    (h : (vp_in s1 45) ∧ (∀ M1 : MM, M1 = (pt M 132 (s1).toNatClampNeg s0) → (∀ M2 : MM, M2 = (pt M1 119 29 ((M1 119 29) + (1 : Int32))) → (Q (M2 119 29) M2)))) :
    G κ mX11_write 78 [.ref 119, .null, .null, .null] [.int s0, .int s1, .ref 132] M Q := by
  have hv1 := h.1; replace h := h.2
  refine g_iastP dX11_write_78 sh_132 hv1 ?_
  refine g_nmM (fun M1 hM1 => ?_); replace h := h M1 hM1
  refine g_aload_n (i := 0) dX11_write_79 rfl rfl ?_
  refine g_dup dX11_write_80 rfl ?_
  refine gf_RX11_173 rfl dX11_write_81 sh_119 ?_
  refine g_iconst (v := (1 : Int32)) dX11_write_84 (by decide) ?_
  refine g_iadd dX11_write_85 ?_
  refine gp_RX11_173 rfl dX11_write_86 sh_119 ?_
  refine g_nmM (fun M2 hM2 => ?_); replace h := h M2 hM2
  refine g_aload_n (i := 0) dX11_write_89 rfl rfl ?_
  refine gf_RX11_173 rfl dX11_write_90 sh_119 ?_
  exact g_iret dX11_write_93 rfl h
theorem eX11_write {κ : gK} {M : MM} {Q : Int32 → MM → Prop} (l1 : Int32) (l2 : Int32) (l3 : Int32)
    (h : G κ mX11_write 0 [.ref 119, .int l1, .int l2, .int l3] [] M Q) : Cl κ mX11_write [.ref 119, .int l1, .int l2, .int l3] M Q := g_entry 0 pl_X11_write (Nat.le_of_ble_eq_true rfl) (L := [.ref 119, .int l1, .int l2, .int l3]) rfl (g_sub _ (sub_c (Or.inr rfl) (sub_c (Or.inr rfl) (sub_c (Or.inr rfl) (sub_c (Or.inr rfl) sub_n)))) h)
theorem dX11_tear_0 : decode cX11_tear 0 = .ok (.aload_n 0, 1) := by decide +kernel
theorem dX11_tear_1 : decode cX11_tear 1 = .ok (.getfield 167, 3) := by decide +kernel
theorem dX11_tear_4 : decode cX11_tear 4 = .ok (.aload_n 0, 1) := by decide +kernel
theorem dX11_tear_5 : decode cX11_tear 5 = .ok (.getfield 170, 3) := by decide +kernel
theorem dX11_tear_8 : decode cX11_tear 8 = .ok (.iadd, 1) := by decide +kernel
theorem dX11_tear_9 : decode cX11_tear 9 = .ok (.aload_n 0, 1) := by decide +kernel
theorem dX11_tear_10 : decode cX11_tear 10 = .ok (.getfield 173, 3) := by decide +kernel
theorem dX11_tear_13 : decode cX11_tear 13 = .ok (.iadd, 1) := by decide +kernel
theorem dX11_tear_14 : decode cX11_tear 14 = .ok (.istore_n 1, 1) := by decide +kernel
theorem dX11_tear_15 : decode cX11_tear 15 = .ok (.aload_n 0, 1) := by decide +kernel
theorem dX11_tear_16 : decode cX11_tear 16 = .ok (.iconst 0, 1) := by decide +kernel
theorem dX11_tear_17 : decode cX11_tear 17 = .ok (.putfield 167, 3) := by decide +kernel
theorem dX11_tear_20 : decode cX11_tear 20 = .ok (.aload_n 0, 1) := by decide +kernel
theorem dX11_tear_21 : decode cX11_tear 21 = .ok (.iconst 0, 1) := by decide +kernel
theorem dX11_tear_22 : decode cX11_tear 22 = .ok (.putfield 170, 3) := by decide +kernel
theorem dX11_tear_25 : decode cX11_tear 25 = .ok (.aload_n 0, 1) := by decide +kernel
theorem dX11_tear_26 : decode cX11_tear 26 = .ok (.iconst 0, 1) := by decide +kernel
theorem dX11_tear_27 : decode cX11_tear 27 = .ok (.putfield 173, 3) := by decide +kernel
theorem dX11_tear_30 : decode cX11_tear 30 = .ok (.iload_n 1, 1) := by decide +kernel
theorem dX11_tear_31 : decode cX11_tear 31 = .ok (.ireturn, 1) := by decide +kernel
theorem bX11_tear_0 {κ : gK} {M : MM} {Q : Int32 → MM → Prop} 
    (h : ∀ v1 : Int32, v1 = (((M 119 24) + (M 119 26)) + (M 119 29)) → (∀ M2 : MM, M2 = (pt M 119 24 (0 : Int32)) → (∀ M3 : MM, M3 = (pt M2 119 26 (0 : Int32)) → (∀ M4 : MM, M4 = (pt M3 119 29 (0 : Int32)) → (Q v1 M4))))) :
    G κ mX11_tear 0 [.ref 119, .null] [] M Q := by
  refine g_aload_n (i := 0) dX11_tear_0 rfl rfl ?_
  refine gf_RX11_167 rfl dX11_tear_1 sh_119 ?_
  refine g_aload_n (i := 0) dX11_tear_4 rfl rfl ?_
  refine gf_RX11_170 rfl dX11_tear_5 sh_119 ?_
  refine g_iadd dX11_tear_8 ?_
  refine g_aload_n (i := 0) dX11_tear_9 rfl rfl ?_
  refine gf_RX11_173 rfl dX11_tear_10 sh_119 ?_
  refine g_iadd dX11_tear_13 ?_
  refine lv_nm (fun v1 hn1 => ?_) (x := (((M 119 24) + (M 119 26)) + (M 119 29)))
  replace h := h v1 hn1
  refine g_istore_n (i := 1) (L' := [.ref 119, .int v1]) dX11_tear_14 rfl (Nat.le_of_ble_eq_true rfl) rfl rfl ?_
  refine g_aload_n (i := 0) dX11_tear_15 rfl rfl ?_
  refine g_iconst (v := (0 : Int32)) dX11_tear_16 (by decide) ?_
  refine gp_RX11_167 rfl dX11_tear_17 sh_119 ?_
  refine g_nmM (fun M2 hM2 => ?_); replace h := h M2 hM2
  refine g_aload_n (i := 0) dX11_tear_20 rfl rfl ?_
  refine g_iconst (v := (0 : Int32)) dX11_tear_21 (by decide) ?_
  refine gp_RX11_170 rfl dX11_tear_22 sh_119 ?_
  refine g_nmM (fun M3 hM3 => ?_); replace h := h M3 hM3
  refine g_aload_n (i := 0) dX11_tear_25 rfl rfl ?_
  refine g_iconst (v := (0 : Int32)) dX11_tear_26 (by decide) ?_
  refine gp_RX11_173 rfl dX11_tear_27 sh_119 ?_
  refine g_nmM (fun M4 hM4 => ?_); replace h := h M4 hM4
  refine g_iload_n (i := 1) dX11_tear_30 rfl rfl ?_
  exact g_iret dX11_tear_31 rfl h
theorem eX11_tear {κ : gK} {M : MM} {Q : Int32 → MM → Prop} 
    (h : G κ mX11_tear 0 [.ref 119, .null] [] M Q) : Cl κ mX11_tear [.ref 119] M Q := g_entry 1 pl_X11_tear (Nat.le_of_ble_eq_true rfl) (L := [.ref 119, .null]) rfl (g_sub _ (sub_c (Or.inr rfl) (sub_c (Or.inr rfl) sub_n)) h)
theorem dX11_judge_0 : decode cX11_judge 0 = .ok (.iconst (-1), 1) := by decide +kernel
theorem dX11_judge_1 : decode cX11_judge 1 = .ok (.istore_n 1, 1) := by decide +kernel
theorem dX11_judge_2 : decode cX11_judge 2 = .ok (.aload_n 0, 1) := by decide +kernel
theorem dX11_judge_3 : decode cX11_judge 3 = .ok (.getfield 173, 3) := by decide +kernel
theorem dX11_judge_6 : decode cX11_judge 6 = .ok (.iconst 1, 1) := by decide +kernel
theorem dX11_judge_7 : decode cX11_judge 7 = .ok (.isub, 1) := by decide +kernel
theorem dX11_judge_8 : decode cX11_judge 8 = .ok (.istore_n 2, 1) := by decide +kernel
theorem dX11_judge_9 : decode cX11_judge 9 = .ok (.iload_n 2, 1) := by decide +kernel
theorem dX11_judge_10 : decode cX11_judge 10 = .ok (.ifCond .lt 61, 3) := by decide +kernel
theorem dX11_judge_13 : decode cX11_judge 13 = .ok (.aload_n 0, 1) := by decide +kernel
theorem dX11_judge_14 : decode cX11_judge 14 = .ok (.aload_n 0, 1) := by decide +kernel
theorem dX11_judge_15 : decode cX11_judge 15 = .ok (.getfield 50, 3) := by decide +kernel
theorem dX11_judge_18 : decode cX11_judge 18 = .ok (.iconst 3, 1) := by decide +kernel
theorem dX11_judge_19 : decode cX11_judge 19 = .ok (.iload_n 2, 1) := by decide +kernel
theorem dX11_judge_20 : decode cX11_judge 20 = .ok (.imul, 1) := by decide +kernel
theorem dX11_judge_21 : decode cX11_judge 21 = .ok (.iaload, 1) := by decide +kernel
theorem dX11_judge_22 : decode cX11_judge 22 = .ok (.aload_n 0, 1) := by decide +kernel
theorem dX11_judge_23 : decode cX11_judge 23 = .ok (.getfield 50, 3) := by decide +kernel
theorem dX11_judge_26 : decode cX11_judge 26 = .ok (.iconst 3, 1) := by decide +kernel
theorem dX11_judge_27 : decode cX11_judge 27 = .ok (.iload_n 2, 1) := by decide +kernel
theorem dX11_judge_28 : decode cX11_judge 28 = .ok (.imul, 1) := by decide +kernel
theorem dX11_judge_29 : decode cX11_judge 29 = .ok (.iconst 1, 1) := by decide +kernel
theorem dX11_judge_30 : decode cX11_judge 30 = .ok (.iadd, 1) := by decide +kernel
theorem dX11_judge_31 : decode cX11_judge 31 = .ok (.iaload, 1) := by decide +kernel
theorem dX11_judge_32 : decode cX11_judge 32 = .ok (.invokevirtual 96, 3) := by decide +kernel
theorem dX11_judge_35 : decode cX11_judge 35 = .ok (.istore_n 3, 1) := by decide +kernel
theorem dX11_judge_36 : decode cX11_judge 36 = .ok (.iload_n 3, 1) := by decide +kernel
theorem dX11_judge_37 : decode cX11_judge 37 = .ok (.aload_n 0, 1) := by decide +kernel
theorem dX11_judge_38 : decode cX11_judge 38 = .ok (.getfield 50, 3) := by decide +kernel
theorem dX11_judge_41 : decode cX11_judge 41 = .ok (.iconst 3, 1) := by decide +kernel
theorem dX11_judge_42 : decode cX11_judge 42 = .ok (.iload_n 2, 1) := by decide +kernel
theorem dX11_judge_43 : decode cX11_judge 43 = .ok (.imul, 1) := by decide +kernel
theorem dX11_judge_44 : decode cX11_judge 44 = .ok (.iconst 2, 1) := by decide +kernel
theorem dX11_judge_45 : decode cX11_judge 45 = .ok (.iadd, 1) := by decide +kernel
theorem dX11_judge_46 : decode cX11_judge 46 = .ok (.iaload, 1) := by decide +kernel
theorem dX11_judge_47 : decode cX11_judge 47 = .ok (.iconst 1, 1) := by decide +kernel
theorem dX11_judge_48 : decode cX11_judge 48 = .ok (.if_icmp .ne 7, 3) := by decide +kernel
theorem dX11_judge_51 : decode cX11_judge 51 = .ok (.iconst 1, 1) := by decide +kernel
theorem dX11_judge_52 : decode cX11_judge 52 = .ok (.goto 4, 3) := by decide +kernel
theorem dX11_judge_55 : decode cX11_judge 55 = .ok (.iconst 0, 1) := by decide +kernel
theorem dX11_judge_56 : decode cX11_judge 56 = .ok (.if_icmp .ne 7, 3) := by decide +kernel
theorem dX11_judge_59 : decode cX11_judge 59 = .ok (.iload_n 1, 1) := by decide +kernel
theorem dX11_judge_60 : decode cX11_judge 60 = .ok (.goto 4, 3) := by decide +kernel
theorem dX11_judge_63 : decode cX11_judge 63 = .ok (.iload_n 2, 1) := by decide +kernel
theorem dX11_judge_64 : decode cX11_judge 64 = .ok (.istore_n 1, 1) := by decide +kernel
theorem dX11_judge_65 : decode cX11_judge 65 = .ok (.iinc 2 (-1), 3) := by decide +kernel
theorem dX11_judge_68 : decode cX11_judge 68 = .ok (.goto (-59), 3) := by decide +kernel
theorem dX11_judge_71 : decode cX11_judge 71 = .ok (.iload_n 1, 1) := by decide +kernel
theorem dX11_judge_72 : decode cX11_judge 72 = .ok (.ireturn, 1) := by decide +kernel
theorem bX11_judge_0 {κ : gK} {M : MM} {Q : Int32 → MM → Prop} 
    (h : ∀ v1 : Int32, v1 = ((M 119 29) - (1 : Int32)) → (G κ mX11_judge 9 [.ref 119, .int (-1 : Int32), .int v1, .null] [] M Q)) :
    G κ mX11_judge 0 [.ref 119, .null, .null, .null] [] M Q := by
  refine g_iconst (v := (-1 : Int32)) dX11_judge_0 (by decide) ?_
  refine g_istore_n (i := 1) (L' := [.ref 119, .int (-1 : Int32), .null, .null]) dX11_judge_1 rfl (Nat.le_of_ble_eq_true rfl) rfl rfl ?_
  refine g_aload_n (i := 0) dX11_judge_2 rfl rfl ?_
  refine gf_RX11_173 rfl dX11_judge_3 sh_119 ?_
  refine g_iconst (v := (1 : Int32)) dX11_judge_6 (by decide) ?_
  refine g_isub dX11_judge_7 ?_
  refine lv_nm (fun v1 hn1 => ?_) (x := ((M 119 29) - (1 : Int32)))
  replace h := h v1 hn1
  refine g_istore_n (i := 2) (L' := [.ref 119, .int (-1 : Int32), .int v1, .null]) dX11_judge_8 rfl (Nat.le_of_ble_eq_true rfl) rfl rfl ?_
  exact h
theorem bX11_judge_9 {κ : gK} {M : MM} {Q : Int32 → MM → Prop} (l1 : Int32) (l2 : Int32)
    (h : ((l2 < 0 → Q l1 M) ∧ (¬ l2 < 0 → (vp_in ((3 : Int32) * l2) 45) ∧ ((vp_in (((3 : Int32) * l2) + (1 : Int32)) 45) ∧ (Cl κ mX11_isOn [.ref 119, .int (M 132 (((3 : Int32) * l2)).toNatClampNeg), .int (M 132 ((((3 : Int32) * l2) + (1 : Int32))).toNatClampNeg)] M (fun r1 M1 => (vp_in (((3 : Int32) * l2) + (2 : Int32)) 45) ∧ ((((M1 132 ((((3 : Int32) * l2) + (2 : Int32))).toNatClampNeg) = (1 : Int32) → G κ mX11_judge 56 [.ref 119, .int l1, .int l2, .null] [.int (1 : Int32), .int r1] M1 Q) ∧ (¬ (M1 132 ((((3 : Int32) * l2) + (2 : Int32))).toNatClampNeg) = (1 : Int32) → G κ mX11_judge 56 [.ref 119, .int l1, .int l2, .null] [.int (0 : Int32), .int r1] M1 Q))))))))) :
    G κ mX11_judge 9 [.ref 119, .int l1, .int l2, .null] [] M Q := by
  refine g_iload_n (i := 2) dX11_judge_9 rfl rfl ?_
  refine g_if_lt (tgt := 71) dX11_judge_10 rfl ⟨fun hc => ?_, fun hc => ?_⟩
  · replace h := h.1 hc
    refine g_iload_n (i := 1) dX11_judge_71 rfl rfl ?_
    exact g_iret dX11_judge_72 rfl h
  · replace h := h.2 hc
    refine g_aload_n (i := 0) dX11_judge_13 rfl rfl ?_
    refine g_aload_n (i := 0) dX11_judge_14 rfl rfl ?_
    refine gf_RX11_50 rfl dX11_judge_15 sh_119 ?_
    refine g_iconst (v := (3 : Int32)) dX11_judge_18 (by decide) ?_
    refine g_iload_n (i := 2) dX11_judge_19 rfl rfl ?_
    refine g_imul dX11_judge_20 ?_
    have hv1 := h.1; replace h := h.2
    refine g_iald dX11_judge_21 sh_132 hv1 ?_
    refine g_aload_n (i := 0) dX11_judge_22 rfl rfl ?_
    refine gf_RX11_50 rfl dX11_judge_23 sh_119 ?_
    refine g_iconst (v := (3 : Int32)) dX11_judge_26 (by decide) ?_
    refine g_iload_n (i := 2) dX11_judge_27 rfl rfl ?_
    refine g_imul dX11_judge_28 ?_
    refine g_iconst (v := (1 : Int32)) dX11_judge_29 (by decide) ?_
    refine g_iadd dX11_judge_30 ?_
    have hv2 := h.1; replace h := h.2
    refine g_iald dX11_judge_31 sh_132 hv2 ?_
    refine gc_RX11_96 rfl (Nat.le_of_ble_eq_true rfl) dX11_judge_32 sh_119 (Nat.le_of_ble_eq_true rfl) ?_
    refine Cl.mono h (fun r1 M1 h => ?_)
    refine g_istore_n (i := 3) (L' := [.ref 119, .int l1, .int l2, .int r1]) dX11_judge_35 rfl (Nat.le_of_ble_eq_true rfl) rfl rfl ?_
    refine g_iload_n (i := 3) dX11_judge_36 rfl rfl ?_
    refine g_aload_n (i := 0) dX11_judge_37 rfl rfl ?_
    refine gf_RX11_50 rfl dX11_judge_38 sh_119 ?_
    refine g_iconst (v := (3 : Int32)) dX11_judge_41 (by decide) ?_
    refine g_iload_n (i := 2) dX11_judge_42 rfl rfl ?_
    refine g_imul dX11_judge_43 ?_
    refine g_iconst (v := (2 : Int32)) dX11_judge_44 (by decide) ?_
    refine g_iadd dX11_judge_45 ?_
    have hv3 := h.1; replace h := h.2
    refine g_iald dX11_judge_46 sh_132 hv3 ?_
    refine g_iconst (v := (1 : Int32)) dX11_judge_47 (by decide) ?_
    refine g_icmp_ne (tgt := 55) dX11_judge_48 rfl ⟨fun hc => ?_, fun hc => ?_⟩
    · replace h := h.1 hc
      refine g_iconst (v := (1 : Int32)) dX11_judge_51 (by decide) ?_
      refine g_goto (tgt := 56) dX11_judge_52 rfl ?_
      exact g_sub _ (sub_c (Or.inr rfl) (sub_c (Or.inr rfl) (sub_c (Or.inr rfl) (sub_c (Or.inl rfl) sub_n)))) h
    · replace h := h.2 hc
      refine g_iconst (v := (0 : Int32)) dX11_judge_55 (by decide) ?_
      exact g_sub _ (sub_c (Or.inr rfl) (sub_c (Or.inr rfl) (sub_c (Or.inr rfl) (sub_c (Or.inl rfl) sub_n)))) h
theorem bX11_judge_56 {κ : gK} {M : MM} {Q : Int32 → MM → Prop} (l1 : Int32) (l2 : Int32) (s0 : Int32) (s1 : Int32)
    (h : ((s1 = s0 → G κ mX11_judge 64 [.ref 119, .null, .int l2, .null] [.int l1] M Q) ∧ (¬ s1 = s0 → G κ mX11_judge 64 [.ref 119, .null, .int l2, .null] [.int l2] M Q))) :
    G κ mX11_judge 56 [.ref 119, .int l1, .int l2, .null] [.int s0, .int s1] M Q := by
  refine g_icmp_ne (tgt := 63) dX11_judge_56 rfl ⟨fun hc => ?_, fun hc => ?_⟩
  · replace h := h.1 hc
    refine g_iload_n (i := 1) dX11_judge_59 rfl rfl ?_
    refine g_goto (tgt := 64) dX11_judge_60 rfl ?_
    exact g_sub _ (sub_c (Or.inr rfl) (sub_c (Or.inl rfl) (sub_c (Or.inr rfl) (sub_c (Or.inr rfl) sub_n)))) h
  · replace h := h.2 hc
    refine g_iload_n (i := 2) dX11_judge_63 rfl rfl ?_
    exact g_sub _ (sub_c (Or.inr rfl) (sub_c (Or.inl rfl) (sub_c (Or.inr rfl) (sub_c (Or.inr rfl) sub_n)))) h
theorem bX11_judge_64 {κ : gK} {M : MM} {Q : Int32 → MM → Prop} (l2 : Int32) (s0 : Int32)
    (h : G κ mX11_judge 9 [.ref 119, .int s0, .int (l2 + (-1)), .null] [] M Q) :
    G κ mX11_judge 64 [.ref 119, .null, .int l2, .null] [.int s0] M Q := by
  refine g_istore_n (i := 1) (L' := [.ref 119, .int s0, .int l2, .null]) dX11_judge_64 rfl (Nat.le_of_ble_eq_true rfl) rfl rfl ?_
  refine g_iinc (v := (l2 + (-1))) (L' := [.ref 119, .int s0, .int (l2 + (-1)), .null]) dX11_judge_65 rfl rfl (Nat.le_of_ble_eq_true rfl) rfl rfl ?_
  refine g_goto (tgt := 9) dX11_judge_68 rfl ?_
  exact h
theorem eX11_judge {κ : gK} {M : MM} {Q : Int32 → MM → Prop} 
    (h : G κ mX11_judge 0 [.ref 119, .null, .null, .null] [] M Q) : Cl κ mX11_judge [.ref 119] M Q := g_entry 3 pl_X11_judge (Nat.le_of_ble_eq_true rfl) (L := [.ref 119, .null, .null, .null]) rfl (g_sub _ (sub_c (Or.inr rfl) (sub_c (Or.inr rfl) (sub_c (Or.inr rfl) (sub_c (Or.inr rfl) sub_n)))) h)
theorem dX11_seed_0 : decode cX11_seed 0 = .ok (.iload_n 1, 1) := by decide +kernel
theorem dX11_seed_1 : decode cX11_seed 1 = .ok (.ifCond .ge 6, 3) := by decide +kernel
theorem dX11_seed_4 : decode cX11_seed 4 = .ok (.ldc 112, 2) := by decide +kernel
theorem dX11_seed_6 : decode cX11_seed 6 = .ok (.ireturn, 1) := by decide +kernel
theorem dX11_seed_7 : decode cX11_seed 7 = .ok (.aload_n 0, 1) := by decide +kernel
theorem dX11_seed_8 : decode cX11_seed 8 = .ok (.getfield 217, 3) := by decide +kernel
theorem dX11_seed_11 : decode cX11_seed 11 = .ok (.istore_n 2, 1) := by decide +kernel
theorem dX11_seed_12 : decode cX11_seed 12 = .ok (.aload_n 0, 1) := by decide +kernel
theorem dX11_seed_13 : decode cX11_seed 13 = .ok (.iload_n 1, 1) := by decide +kernel
theorem dX11_seed_14 : decode cX11_seed 14 = .ok (.putfield 217, 3) := by decide +kernel
theorem dX11_seed_17 : decode cX11_seed 17 = .ok (.iload_n 2, 1) := by decide +kernel
theorem dX11_seed_18 : decode cX11_seed 18 = .ok (.ireturn, 1) := by decide +kernel
theorem bX11_seed_0 {κ : gK} {M : MM} {Q : Int32 → MM → Prop} (l1 : Int32)
    (h : ((0 ≤ l1 → ∀ M1 : MM, M1 = (pt M 119 20 l1) → (Q (M 119 20) M1)) ∧ (¬ 0 ≤ l1 → Q (-1000000002 : Int32) M))) :
    G κ mX11_seed 0 [.ref 119, .int l1, .null] [] M Q := by
  refine g_iload_n (i := 1) dX11_seed_0 rfl rfl ?_
  refine g_if_ge (tgt := 7) dX11_seed_1 rfl ⟨fun hc => ?_, fun hc => ?_⟩
  · replace h := h.1 hc
    refine g_aload_n (i := 0) dX11_seed_7 rfl rfl ?_
    refine gf_RX11_217 rfl dX11_seed_8 sh_119 ?_
    refine g_istore_n (i := 2) (L' := [.ref 119, .int l1, .int (M 119 20)]) dX11_seed_11 rfl (Nat.le_of_ble_eq_true rfl) rfl rfl ?_
    refine g_aload_n (i := 0) dX11_seed_12 rfl rfl ?_
    refine g_iload_n (i := 1) dX11_seed_13 rfl rfl ?_
    refine gp_RX11_217 rfl dX11_seed_14 sh_119 ?_
    refine g_nmM (fun M1 hM1 => ?_); replace h := h M1 hM1
    refine g_iload_n (i := 2) dX11_seed_17 rfl rfl ?_
    exact g_iret dX11_seed_18 rfl h
  · replace h := h.2 hc
    refine g_ldc dX11_seed_4 wt_873 ?_
    exact g_iret dX11_seed_6 rfl h
theorem eX11_seed {κ : gK} {M : MM} {Q : Int32 → MM → Prop} (l1 : Int32)
    (h : G κ mX11_seed 0 [.ref 119, .int l1, .null] [] M Q) : Cl κ mX11_seed [.ref 119, .int l1] M Q := g_entry 1 pl_X11_seed (Nat.le_of_ble_eq_true rfl) (L := [.ref 119, .int l1, .null]) rfl (g_sub _ (sub_c (Or.inr rfl) (sub_c (Or.inr rfl) (sub_c (Or.inr rfl) sub_n))) h)
theorem dX11_keep_0 : decode cX11_keep 0 = .ok (.iload_n 1, 1) := by decide +kernel
theorem dX11_keep_1 : decode cX11_keep 1 = .ok (.i2l, 1) := by decide +kernel
theorem dX11_keep_2 : decode cX11_keep 2 = .ok (.lconst 0, 1) := by decide +kernel
theorem dX11_keep_3 : decode cX11_keep 3 = .ok (.lconst 1, 1) := by decide +kernel
theorem dX11_keep_4 : decode cX11_keep 4 = .ok (.invokestatic 63, 3) := by decide +kernel
theorem dX11_keep_7 : decode cX11_keep 7 = .ok (.ifCond .ne 6, 3) := by decide +kernel
theorem dX11_keep_10 : decode cX11_keep 10 = .ok (.ldc 199, 2) := by decide +kernel
theorem dX11_keep_12 : decode cX11_keep 12 = .ok (.ireturn, 1) := by decide +kernel
theorem dX11_keep_13 : decode cX11_keep 13 = .ok (.iconst 0, 1) := by decide +kernel
theorem dX11_keep_14 : decode cX11_keep 14 = .ok (.istore_n 2, 1) := by decide +kernel
theorem dX11_keep_15 : decode cX11_keep 15 = .ok (.iload_n 2, 1) := by decide +kernel
theorem dX11_keep_16 : decode cX11_keep 16 = .ok (.bipush 26, 2) := by decide +kernel
theorem dX11_keep_18 : decode cX11_keep 18 = .ok (.if_icmp .ge 26, 3) := by decide +kernel
theorem dX11_keep_21 : decode cX11_keep 21 = .ok (.aload_n 0, 1) := by decide +kernel
theorem dX11_keep_22 : decode cX11_keep 22 = .ok (.getfield 53, 3) := by decide +kernel
theorem dX11_keep_25 : decode cX11_keep 25 = .ok (.bipush 27, 2) := by decide +kernel
theorem dX11_keep_27 : decode cX11_keep 27 = .ok (.iload_n 1, 1) := by decide +kernel
theorem dX11_keep_28 : decode cX11_keep 28 = .ok (.imul, 1) := by decide +kernel
theorem dX11_keep_29 : decode cX11_keep 29 = .ok (.iload_n 2, 1) := by decide +kernel
theorem dX11_keep_30 : decode cX11_keep 30 = .ok (.iadd, 1) := by decide +kernel
theorem dX11_keep_31 : decode cX11_keep 31 = .ok (.aload_n 0, 1) := by decide +kernel
theorem dX11_keep_32 : decode cX11_keep 32 = .ok (.getfield 16, 3) := by decide +kernel
theorem dX11_keep_35 : decode cX11_keep 35 = .ok (.iload_n 2, 1) := by decide +kernel
theorem dX11_keep_36 : decode cX11_keep 36 = .ok (.iaload, 1) := by decide +kernel
theorem dX11_keep_37 : decode cX11_keep 37 = .ok (.iastore, 1) := by decide +kernel
theorem dX11_keep_38 : decode cX11_keep 38 = .ok (.iinc 2 1, 3) := by decide +kernel
theorem dX11_keep_41 : decode cX11_keep 41 = .ok (.goto (-26), 3) := by decide +kernel
theorem dX11_keep_44 : decode cX11_keep 44 = .ok (.aload_n 0, 1) := by decide +kernel
theorem dX11_keep_45 : decode cX11_keep 45 = .ok (.getfield 53, 3) := by decide +kernel
theorem dX11_keep_48 : decode cX11_keep 48 = .ok (.bipush 27, 2) := by decide +kernel
theorem dX11_keep_50 : decode cX11_keep 50 = .ok (.iload_n 1, 1) := by decide +kernel
theorem dX11_keep_51 : decode cX11_keep 51 = .ok (.imul, 1) := by decide +kernel
theorem dX11_keep_52 : decode cX11_keep 52 = .ok (.bipush 26, 2) := by decide +kernel
theorem dX11_keep_54 : decode cX11_keep 54 = .ok (.iadd, 1) := by decide +kernel
theorem dX11_keep_55 : decode cX11_keep 55 = .ok (.aload_n 0, 1) := by decide +kernel
theorem dX11_keep_56 : decode cX11_keep 56 = .ok (.getfield 217, 3) := by decide +kernel
theorem dX11_keep_59 : decode cX11_keep 59 = .ok (.iastore, 1) := by decide +kernel
theorem dX11_keep_60 : decode cX11_keep 60 = .ok (.aload_n 0, 1) := by decide +kernel
theorem dX11_keep_61 : decode cX11_keep 61 = .ok (.getfield 56, 3) := by decide +kernel
theorem dX11_keep_64 : decode cX11_keep 64 = .ok (.iload_n 1, 1) := by decide +kernel
theorem dX11_keep_65 : decode cX11_keep 65 = .ok (.iconst 1, 1) := by decide +kernel
theorem dX11_keep_66 : decode cX11_keep 66 = .ok (.bastore, 1) := by decide +kernel
theorem dX11_keep_67 : decode cX11_keep 67 = .ok (.aload_n 0, 1) := by decide +kernel
theorem dX11_keep_68 : decode cX11_keep 68 = .ok (.iconst 0, 1) := by decide +kernel
theorem dX11_keep_69 : decode cX11_keep 69 = .ok (.putfield 176, 3) := by decide +kernel
theorem dX11_keep_72 : decode cX11_keep 72 = .ok (.iconst 1, 1) := by decide +kernel
theorem dX11_keep_73 : decode cX11_keep 73 = .ok (.ireturn, 1) := by decide +kernel
theorem bX11_keep_0 {κ : gK} {M : MM} {Q : Int32 → MM → Prop} (l1 : Int32)
    (h : Cl κ mX11_in [.long (l1).toInt64, .long (0 : Int64), .long (1 : Int64)] M (fun r1 M1 => ((r1 = 0 → Q (-1000000001 : Int32) M1) ∧ (¬ r1 = 0 → G κ mX11_keep 15 [.ref 119, .int l1, .int (0 : Int32)] [] M1 Q)))) :
    G κ mX11_keep 0 [.ref 119, .int l1, .null] [] M Q := by
  refine g_iload_n (i := 1) dX11_keep_0 rfl rfl ?_
  refine g_i2l dX11_keep_1 ?_
  refine g_lconst (v := (0 : Int64)) dX11_keep_2 (by decide) ?_
  refine g_lconst (v := (1 : Int64)) dX11_keep_3 (by decide) ?_
  refine gc_RX11_63 rfl (Nat.le_of_ble_eq_true rfl) dX11_keep_4 (Nat.le_of_ble_eq_true rfl) ?_
  refine Cl.mono h (fun r1 M1 h => ?_)
  refine g_if_ne (tgt := 13) dX11_keep_7 rfl ⟨fun hc => ?_, fun hc => ?_⟩
  · replace h := h.1 hc
    refine g_ldc dX11_keep_10 wt_984 ?_
    exact g_iret dX11_keep_12 rfl h
  · replace h := h.2 hc
    refine g_iconst (v := (0 : Int32)) dX11_keep_13 (by decide) ?_
    refine g_istore_n (i := 2) (L' := [.ref 119, .int l1, .int (0 : Int32)]) dX11_keep_14 rfl (Nat.le_of_ble_eq_true rfl) rfl rfl ?_
    exact h
theorem bX11_keep_15 {κ : gK} {M : MM} {Q : Int32 → MM → Prop} (l1 : Int32) (l2 : Int32)
    (h : (((26 : Int32) ≤ l2 → (vp_in (((27 : Int32) * l1) + (26 : Int32)) 54) ∧ (∀ M1 : MM, M1 = (pt M 133 ((((27 : Int32) * l1) + (26 : Int32))).toNatClampNeg (M 119 20)) → ((vp_in l1 2) ∧ (∀ M2 : MM, M2 = (pt M1 134 (l1).toNatClampNeg (1 : Int32)) → (∀ M3 : MM, M3 = (pt M2 119 19 (0 : Int32)) → (Q (1 : Int32) M3)))))) ∧ (¬ (26 : Int32) ≤ l2 → (vp_in l2 26) ∧ ((vp_in (((27 : Int32) * l1) + l2) 54) ∧ (∀ M4 : MM, M4 = (pt M 133 ((((27 : Int32) * l1) + l2)).toNatClampNeg (M 122 (l2).toNatClampNeg)) → (G κ mX11_keep 15 [.ref 119, .int l1, .int (l2 + 1)] [] M4 Q)))))) :
    G κ mX11_keep 15 [.ref 119, .int l1, .int l2] [] M Q := by
  refine g_iload_n (i := 2) dX11_keep_15 rfl rfl ?_
  refine g_bipush (v := (26 : Int32)) dX11_keep_16 (by decide) ?_
  refine g_icmp_ge (tgt := 44) dX11_keep_18 rfl ⟨fun hc => ?_, fun hc => ?_⟩
  · replace h := h.1 hc
    refine g_aload_n (i := 0) dX11_keep_44 rfl rfl ?_
    refine gf_RX11_53 rfl dX11_keep_45 sh_119 ?_
    refine g_bipush (v := (27 : Int32)) dX11_keep_48 (by decide) ?_
    refine g_iload_n (i := 1) dX11_keep_50 rfl rfl ?_
    refine g_imul dX11_keep_51 ?_
    refine g_bipush (v := (26 : Int32)) dX11_keep_52 (by decide) ?_
    refine g_iadd dX11_keep_54 ?_
    refine g_aload_n (i := 0) dX11_keep_55 rfl rfl ?_
    refine gf_RX11_217 rfl dX11_keep_56 sh_119 ?_
    have hv1 := h.1; replace h := h.2
    refine g_iastP dX11_keep_59 sh_133 hv1 ?_
    refine g_nmM (fun M1 hM1 => ?_); replace h := h M1 hM1
    refine g_aload_n (i := 0) dX11_keep_60 rfl rfl ?_
    refine gf_RX11_56 rfl dX11_keep_61 sh_119 ?_
    refine g_iload_n (i := 1) dX11_keep_64 rfl rfl ?_
    refine g_iconst (v := (1 : Int32)) dX11_keep_65 (by decide) ?_
    have hv2 := h.1; replace h := h.2
    refine g_zastP dX11_keep_66 sh_134 hv2 ?_
    refine g_nmM (fun M2 hM2 => ?_); replace h := h M2 hM2
    refine g_aload_n (i := 0) dX11_keep_67 rfl rfl ?_
    refine g_iconst (v := (0 : Int32)) dX11_keep_68 (by decide) ?_
    refine gp_RX11_176 rfl dX11_keep_69 sh_119 ?_
    refine g_nmM (fun M3 hM3 => ?_); replace h := h M3 hM3
    refine g_iconst (v := (1 : Int32)) dX11_keep_72 (by decide) ?_
    exact g_iret dX11_keep_73 rfl h
  · replace h := h.2 hc
    refine g_aload_n (i := 0) dX11_keep_21 rfl rfl ?_
    refine gf_RX11_53 rfl dX11_keep_22 sh_119 ?_
    refine g_bipush (v := (27 : Int32)) dX11_keep_25 (by decide) ?_
    refine g_iload_n (i := 1) dX11_keep_27 rfl rfl ?_
    refine g_imul dX11_keep_28 ?_
    refine g_iload_n (i := 2) dX11_keep_29 rfl rfl ?_
    refine g_iadd dX11_keep_30 ?_
    refine g_aload_n (i := 0) dX11_keep_31 rfl rfl ?_
    refine gf_RX11_16 rfl dX11_keep_32 sh_119 ?_
    refine g_iload_n (i := 2) dX11_keep_35 rfl rfl ?_
    have hv3 := h.1; replace h := h.2
    refine g_iald dX11_keep_36 sh_122 hv3 ?_
    have hv4 := h.1; replace h := h.2
    refine g_iastP dX11_keep_37 sh_133 hv4 ?_
    refine g_nmM (fun M4 hM4 => ?_); replace h := h M4 hM4
    refine g_iinc (v := (l2 + 1)) (L' := [.ref 119, .int l1, .int (l2 + 1)]) dX11_keep_38 rfl rfl (Nat.le_of_ble_eq_true rfl) rfl rfl ?_
    refine g_goto (tgt := 15) dX11_keep_41 rfl ?_
    exact h
theorem eX11_keep {κ : gK} {M : MM} {Q : Int32 → MM → Prop} (l1 : Int32)
    (h : G κ mX11_keep 0 [.ref 119, .int l1, .null] [] M Q) : Cl κ mX11_keep [.ref 119, .int l1] M Q := g_entry 1 pl_X11_keep (Nat.le_of_ble_eq_true rfl) (L := [.ref 119, .int l1, .null]) rfl (g_sub _ (sub_c (Or.inr rfl) (sub_c (Or.inr rfl) (sub_c (Or.inr rfl) sub_n))) h)
theorem dX11_goBack_0 : decode cX11_goBack 0 = .ok (.iload_n 1, 1) := by decide +kernel
theorem dX11_goBack_1 : decode cX11_goBack 1 = .ok (.i2l, 1) := by decide +kernel
theorem dX11_goBack_2 : decode cX11_goBack 2 = .ok (.lconst 0, 1) := by decide +kernel
theorem dX11_goBack_3 : decode cX11_goBack 3 = .ok (.lconst 1, 1) := by decide +kernel
theorem dX11_goBack_4 : decode cX11_goBack 4 = .ok (.invokestatic 63, 3) := by decide +kernel
theorem dX11_goBack_7 : decode cX11_goBack 7 = .ok (.ifCond .ne 6, 3) := by decide +kernel
theorem dX11_goBack_10 : decode cX11_goBack 10 = .ok (.ldc 199, 2) := by decide +kernel
theorem dX11_goBack_12 : decode cX11_goBack 12 = .ok (.ireturn, 1) := by decide +kernel
theorem dX11_goBack_13 : decode cX11_goBack 13 = .ok (.aload_n 0, 1) := by decide +kernel
theorem dX11_goBack_14 : decode cX11_goBack 14 = .ok (.getfield 56, 3) := by decide +kernel
theorem dX11_goBack_17 : decode cX11_goBack 17 = .ok (.iload_n 1, 1) := by decide +kernel
theorem dX11_goBack_18 : decode cX11_goBack 18 = .ok (.baload, 1) := by decide +kernel
theorem dX11_goBack_19 : decode cX11_goBack 19 = .ok (.ifCond .ne 6, 3) := by decide +kernel
theorem dX11_goBack_22 : decode cX11_goBack 22 = .ok (.ldc 208, 2) := by decide +kernel
theorem dX11_goBack_24 : decode cX11_goBack 24 = .ok (.ireturn, 1) := by decide +kernel
theorem dX11_goBack_25 : decode cX11_goBack 25 = .ok (.iconst 0, 1) := by decide +kernel
theorem dX11_goBack_26 : decode cX11_goBack 26 = .ok (.istore_n 2, 1) := by decide +kernel
theorem dX11_goBack_27 : decode cX11_goBack 27 = .ok (.iload_n 2, 1) := by decide +kernel
theorem dX11_goBack_28 : decode cX11_goBack 28 = .ok (.bipush 26, 2) := by decide +kernel
theorem dX11_goBack_30 : decode cX11_goBack 30 = .ok (.if_icmp .ge 26, 3) := by decide +kernel
theorem dX11_goBack_33 : decode cX11_goBack 33 = .ok (.aload_n 0, 1) := by decide +kernel
theorem dX11_goBack_34 : decode cX11_goBack 34 = .ok (.getfield 16, 3) := by decide +kernel
theorem dX11_goBack_37 : decode cX11_goBack 37 = .ok (.iload_n 2, 1) := by decide +kernel
theorem dX11_goBack_38 : decode cX11_goBack 38 = .ok (.aload_n 0, 1) := by decide +kernel
theorem dX11_goBack_39 : decode cX11_goBack 39 = .ok (.getfield 53, 3) := by decide +kernel
theorem dX11_goBack_42 : decode cX11_goBack 42 = .ok (.bipush 27, 2) := by decide +kernel
theorem dX11_goBack_44 : decode cX11_goBack 44 = .ok (.iload_n 1, 1) := by decide +kernel
theorem dX11_goBack_45 : decode cX11_goBack 45 = .ok (.imul, 1) := by decide +kernel
theorem dX11_goBack_46 : decode cX11_goBack 46 = .ok (.iload_n 2, 1) := by decide +kernel
theorem dX11_goBack_47 : decode cX11_goBack 47 = .ok (.iadd, 1) := by decide +kernel
theorem dX11_goBack_48 : decode cX11_goBack 48 = .ok (.iaload, 1) := by decide +kernel
theorem dX11_goBack_49 : decode cX11_goBack 49 = .ok (.iastore, 1) := by decide +kernel
theorem dX11_goBack_50 : decode cX11_goBack 50 = .ok (.iinc 2 1, 3) := by decide +kernel
theorem dX11_goBack_53 : decode cX11_goBack 53 = .ok (.goto (-26), 3) := by decide +kernel
theorem dX11_goBack_56 : decode cX11_goBack 56 = .ok (.aload_n 0, 1) := by decide +kernel
theorem dX11_goBack_57 : decode cX11_goBack 57 = .ok (.aload_n 0, 1) := by decide +kernel
theorem dX11_goBack_58 : decode cX11_goBack 58 = .ok (.getfield 53, 3) := by decide +kernel
theorem dX11_goBack_61 : decode cX11_goBack 61 = .ok (.bipush 27, 2) := by decide +kernel
theorem dX11_goBack_63 : decode cX11_goBack 63 = .ok (.iload_n 1, 1) := by decide +kernel
theorem dX11_goBack_64 : decode cX11_goBack 64 = .ok (.imul, 1) := by decide +kernel
theorem dX11_goBack_65 : decode cX11_goBack 65 = .ok (.bipush 26, 2) := by decide +kernel
theorem dX11_goBack_67 : decode cX11_goBack 67 = .ok (.iadd, 1) := by decide +kernel
theorem dX11_goBack_68 : decode cX11_goBack 68 = .ok (.iaload, 1) := by decide +kernel
theorem dX11_goBack_69 : decode cX11_goBack 69 = .ok (.putfield 217, 3) := by decide +kernel
theorem dX11_goBack_72 : decode cX11_goBack 72 = .ok (.aload_n 0, 1) := by decide +kernel
theorem dX11_goBack_73 : decode cX11_goBack 73 = .ok (.iconst 0, 1) := by decide +kernel
theorem dX11_goBack_74 : decode cX11_goBack 74 = .ok (.putfield 176, 3) := by decide +kernel
theorem dX11_goBack_77 : decode cX11_goBack 77 = .ok (.iconst 1, 1) := by decide +kernel
theorem dX11_goBack_78 : decode cX11_goBack 78 = .ok (.ireturn, 1) := by decide +kernel
theorem bX11_goBack_0 {κ : gK} {M : MM} {Q : Int32 → MM → Prop} (l1 : Int32)
    (h : Cl κ mX11_in [.long (l1).toInt64, .long (0 : Int64), .long (1 : Int64)] M (fun r1 M1 => ((r1 = 0 → Q (-1000000001 : Int32) M1) ∧ (¬ r1 = 0 → (vp_in l1 2) ∧ ((((M1 134 (l1).toNatClampNeg) = 0 → Q (-1000000003 : Int32) M1) ∧ (¬ (M1 134 (l1).toNatClampNeg) = 0 → G κ mX11_goBack 27 [.ref 119, .int l1, .int (0 : Int32)] [] M1 Q))))))) :
    G κ mX11_goBack 0 [.ref 119, .int l1, .null] [] M Q := by
  refine g_iload_n (i := 1) dX11_goBack_0 rfl rfl ?_
  refine g_i2l dX11_goBack_1 ?_
  refine g_lconst (v := (0 : Int64)) dX11_goBack_2 (by decide) ?_
  refine g_lconst (v := (1 : Int64)) dX11_goBack_3 (by decide) ?_
  refine gc_RX11_63 rfl (Nat.le_of_ble_eq_true rfl) dX11_goBack_4 (Nat.le_of_ble_eq_true rfl) ?_
  refine Cl.mono h (fun r1 M1 h => ?_)
  refine g_if_ne (tgt := 13) dX11_goBack_7 rfl ⟨fun hc => ?_, fun hc => ?_⟩
  · replace h := h.1 hc
    refine g_ldc dX11_goBack_10 wt_984 ?_
    exact g_iret dX11_goBack_12 rfl h
  · replace h := h.2 hc
    refine g_aload_n (i := 0) dX11_goBack_13 rfl rfl ?_
    refine gf_RX11_56 rfl dX11_goBack_14 sh_119 ?_
    refine g_iload_n (i := 1) dX11_goBack_17 rfl rfl ?_
    have hv1 := h.1; replace h := h.2
    refine g_zald dX11_goBack_18 sh_134 hv1 ?_
    refine g_if_ne (tgt := 25) dX11_goBack_19 rfl ⟨fun hc => ?_, fun hc => ?_⟩
    · replace h := h.1 hc
      refine g_ldc dX11_goBack_22 wt_1002 ?_
      exact g_iret dX11_goBack_24 rfl h
    · replace h := h.2 hc
      refine g_iconst (v := (0 : Int32)) dX11_goBack_25 (by decide) ?_
      refine g_istore_n (i := 2) (L' := [.ref 119, .int l1, .int (0 : Int32)]) dX11_goBack_26 rfl (Nat.le_of_ble_eq_true rfl) rfl rfl ?_
      exact h
theorem bX11_goBack_27 {κ : gK} {M : MM} {Q : Int32 → MM → Prop} (l1 : Int32) (l2 : Int32)
    (h : (((26 : Int32) ≤ l2 → (vp_in (((27 : Int32) * l1) + (26 : Int32)) 54) ∧ (∀ M1 : MM, M1 = (pt M 119 20 (M 133 ((((27 : Int32) * l1) + (26 : Int32))).toNatClampNeg)) → (∀ M2 : MM, M2 = (pt M1 119 19 (0 : Int32)) → (Q (1 : Int32) M2)))) ∧ (¬ (26 : Int32) ≤ l2 → (vp_in (((27 : Int32) * l1) + l2) 54) ∧ ((vp_in l2 26) ∧ (∀ M3 : MM, M3 = (pt M 122 (l2).toNatClampNeg (M 133 ((((27 : Int32) * l1) + l2)).toNatClampNeg)) → (G κ mX11_goBack 27 [.ref 119, .int l1, .int (l2 + 1)] [] M3 Q)))))) :
    G κ mX11_goBack 27 [.ref 119, .int l1, .int l2] [] M Q := by
  refine g_iload_n (i := 2) dX11_goBack_27 rfl rfl ?_
  refine g_bipush (v := (26 : Int32)) dX11_goBack_28 (by decide) ?_
  refine g_icmp_ge (tgt := 56) dX11_goBack_30 rfl ⟨fun hc => ?_, fun hc => ?_⟩
  · replace h := h.1 hc
    refine g_aload_n (i := 0) dX11_goBack_56 rfl rfl ?_
    refine g_aload_n (i := 0) dX11_goBack_57 rfl rfl ?_
    refine gf_RX11_53 rfl dX11_goBack_58 sh_119 ?_
    refine g_bipush (v := (27 : Int32)) dX11_goBack_61 (by decide) ?_
    refine g_iload_n (i := 1) dX11_goBack_63 rfl rfl ?_
    refine g_imul dX11_goBack_64 ?_
    refine g_bipush (v := (26 : Int32)) dX11_goBack_65 (by decide) ?_
    refine g_iadd dX11_goBack_67 ?_
    have hv1 := h.1; replace h := h.2
    refine g_iald dX11_goBack_68 sh_133 hv1 ?_
    refine gp_RX11_217 rfl dX11_goBack_69 sh_119 ?_
    refine g_nmM (fun M1 hM1 => ?_); replace h := h M1 hM1
    refine g_aload_n (i := 0) dX11_goBack_72 rfl rfl ?_
    refine g_iconst (v := (0 : Int32)) dX11_goBack_73 (by decide) ?_
    refine gp_RX11_176 rfl dX11_goBack_74 sh_119 ?_
    refine g_nmM (fun M2 hM2 => ?_); replace h := h M2 hM2
    refine g_iconst (v := (1 : Int32)) dX11_goBack_77 (by decide) ?_
    exact g_iret dX11_goBack_78 rfl h
  · replace h := h.2 hc
    refine g_aload_n (i := 0) dX11_goBack_33 rfl rfl ?_
    refine gf_RX11_16 rfl dX11_goBack_34 sh_119 ?_
    refine g_iload_n (i := 2) dX11_goBack_37 rfl rfl ?_
    refine g_aload_n (i := 0) dX11_goBack_38 rfl rfl ?_
    refine gf_RX11_53 rfl dX11_goBack_39 sh_119 ?_
    refine g_bipush (v := (27 : Int32)) dX11_goBack_42 (by decide) ?_
    refine g_iload_n (i := 1) dX11_goBack_44 rfl rfl ?_
    refine g_imul dX11_goBack_45 ?_
    refine g_iload_n (i := 2) dX11_goBack_46 rfl rfl ?_
    refine g_iadd dX11_goBack_47 ?_
    have hv2 := h.1; replace h := h.2
    refine g_iald dX11_goBack_48 sh_133 hv2 ?_
    have hv3 := h.1; replace h := h.2
    refine g_iastP dX11_goBack_49 sh_122 hv3 ?_
    refine g_nmM (fun M3 hM3 => ?_); replace h := h M3 hM3
    refine g_iinc (v := (l2 + 1)) (L' := [.ref 119, .int l1, .int (l2 + 1)]) dX11_goBack_50 rfl rfl (Nat.le_of_ble_eq_true rfl) rfl rfl ?_
    refine g_goto (tgt := 27) dX11_goBack_53 rfl ?_
    exact h
theorem eX11_goBack {κ : gK} {M : MM} {Q : Int32 → MM → Prop} (l1 : Int32)
    (h : G κ mX11_goBack 0 [.ref 119, .int l1, .null] [] M Q) : Cl κ mX11_goBack [.ref 119, .int l1] M Q := g_entry 1 pl_X11_goBack (Nat.le_of_ble_eq_true rfl) (L := [.ref 119, .int l1, .null]) rfl (g_sub _ (sub_c (Or.inr rfl) (sub_c (Or.inr rfl) (sub_c (Or.inr rfl) sub_n))) h)
