theorem dX11_in_0 : decode cX11_in 0 = .ok (.lload_n 0, 1) := by decide +kernel
theorem dX11_in_1 : decode cX11_in 1 = .ok (.lload_n 2, 1) := by decide +kernel
theorem dX11_in_2 : decode cX11_in 2 = .ok (.lcmp, 1) := by decide +kernel
theorem dX11_in_3 : decode cX11_in 3 = .ok (.ifCond .lt 14, 3) := by decide +kernel
theorem dX11_in_6 : decode cX11_in 6 = .ok (.lload_n 0, 1) := by decide +kernel
theorem dX11_in_7 : decode cX11_in 7 = .ok (.lload 4, 2) := by decide +kernel
theorem dX11_in_9 : decode cX11_in 9 = .ok (.lcmp, 1) := by decide +kernel
theorem dX11_in_10 : decode cX11_in 10 = .ok (.ifCond .gt 7, 3) := by decide +kernel
theorem dX11_in_13 : decode cX11_in 13 = .ok (.iconst 1, 1) := by decide +kernel
theorem dX11_in_14 : decode cX11_in 14 = .ok (.goto 4, 3) := by decide +kernel
theorem dX11_in_17 : decode cX11_in 17 = .ok (.iconst 0, 1) := by decide +kernel
theorem dX11_in_18 : decode cX11_in 18 = .ok (.ireturn, 1) := by decide +kernel
theorem bX11_in_0 {κ : gK} {M : MM} {Q : Int32 → MM → Prop} (l0 : Int64) (l2 : Int64) (l4 : Int64)
    (h : (((lg_cmp l0 l2) < 0 → G κ mX11_in 17 [.null, .null, .null, .null, .null, .null] [] M Q) ∧ (¬ (lg_cmp l0 l2) < 0 → ((0 < (lg_cmp l0 l4) → G κ mX11_in 17 [.null, .null, .null, .null, .null, .null] [] M Q) ∧ (¬ 0 < (lg_cmp l0 l4) → G κ mX11_in 18 [.null, .null, .null, .null, .null, .null] [.int (1 : Int32)] M Q))))) :
    G κ mX11_in 0 [.long l0, .null, .long l2, .null, .long l4, .null] [] M Q := by
  refine g_lload_n (i := 0) dX11_in_0 rfl rfl ?_
  refine g_lload_n (i := 2) dX11_in_1 rfl rfl ?_
  refine g_lcmp dX11_in_2 ?_
  refine g_if_lt (tgt := 17) dX11_in_3 rfl ⟨fun hc => ?_, fun hc => ?_⟩
  · replace h := h.1 hc
    exact g_sub _ (sub_c (Or.inl rfl) (sub_c (Or.inr rfl) (sub_c (Or.inl rfl) (sub_c (Or.inr rfl) (sub_c (Or.inl rfl) (sub_c (Or.inr rfl) sub_n)))))) h
  · replace h := h.2 hc
    refine g_lload_n (i := 0) dX11_in_6 rfl rfl ?_
    refine g_lload (i := 4) dX11_in_7 rfl ?_
    refine g_lcmp dX11_in_9 ?_
    refine g_if_gt (tgt := 17) dX11_in_10 rfl ⟨fun hc => ?_, fun hc => ?_⟩
    · replace h := h.1 hc
      exact g_sub _ (sub_c (Or.inl rfl) (sub_c (Or.inr rfl) (sub_c (Or.inl rfl) (sub_c (Or.inr rfl) (sub_c (Or.inl rfl) (sub_c (Or.inr rfl) sub_n)))))) h
    · replace h := h.2 hc
      refine g_iconst (v := (1 : Int32)) dX11_in_13 (by decide) ?_
      refine g_goto (tgt := 18) dX11_in_14 rfl ?_
      exact g_sub _ (sub_c (Or.inl rfl) (sub_c (Or.inr rfl) (sub_c (Or.inl rfl) (sub_c (Or.inr rfl) (sub_c (Or.inl rfl) (sub_c (Or.inr rfl) sub_n)))))) h
theorem bX11_in_17 {κ : gK} {M : MM} {Q : Int32 → MM → Prop} 
    (h : G κ mX11_in 18 [.null, .null, .null, .null, .null, .null] [.int (0 : Int32)] M Q) :
    G κ mX11_in 17 [.null, .null, .null, .null, .null, .null] [] M Q := by
  refine g_iconst (v := (0 : Int32)) dX11_in_17 (by decide) ?_
  exact h
theorem bX11_in_18 {κ : gK} {M : MM} {Q : Int32 → MM → Prop} (s0 : Int32)
    (h : (isB s0 ∧ Q s0 M)) :
    G κ mX11_in 18 [.null, .null, .null, .null, .null, .null] [.int s0] M Q := by
  exact g_zret dX11_in_18 rfl (isB_n h.1) h.2
theorem eX11_in {κ : gK} {M : MM} {Q : Int32 → MM → Prop} (l0 : Int64) (l2 : Int64) (l4 : Int64)
    (h : G κ mX11_in 0 [.long l0, .null, .long l2, .null, .long l4, .null] [] M Q) : Cl κ mX11_in [.long l0, .long l2, .long l4] M Q := g_entry 0 pl_X11_in (Nat.le_of_ble_eq_true rfl) (L := [.long l0, .null, .long l2, .null, .long l4, .null]) rfl (g_sub _ (sub_c (Or.inr rfl) (sub_c (Or.inr rfl) (sub_c (Or.inr rfl) (sub_c (Or.inr rfl) (sub_c (Or.inr rfl) (sub_c (Or.inr rfl) sub_n)))))) h)
theorem dX11_isPerson_0 : decode cX11_isPerson 0 = .ok (.iload_n 1, 1) := by decide +kernel
theorem dX11_isPerson_1 : decode cX11_isPerson 1 = .ok (.i2l, 1) := by decide +kernel
theorem dX11_isPerson_2 : decode cX11_isPerson 2 = .ok (.lconst 0, 1) := by decide +kernel
theorem dX11_isPerson_3 : decode cX11_isPerson 3 = .ok (.aload_n 0, 1) := by decide +kernel
theorem dX11_isPerson_4 : decode cX11_isPerson 4 = .ok (.getfield 60, 3) := by decide +kernel
theorem dX11_isPerson_7 : decode cX11_isPerson 7 = .ok (.iconst 1, 1) := by decide +kernel
theorem dX11_isPerson_8 : decode cX11_isPerson 8 = .ok (.isub, 1) := by decide +kernel
theorem dX11_isPerson_9 : decode cX11_isPerson 9 = .ok (.i2l, 1) := by decide +kernel
theorem dX11_isPerson_10 : decode cX11_isPerson 10 = .ok (.invokestatic 63, 3) := by decide +kernel
theorem dX11_isPerson_13 : decode cX11_isPerson 13 = .ok (.ireturn, 1) := by decide +kernel
theorem bX11_isPerson_0 {κ : gK} {M : MM} {Q : Int32 → MM → Prop} (l1 : Int32)
    (h : Cl κ mX11_in [.long (l1).toInt64, .long (0 : Int64), .long (((M 119 2) - (1 : Int32))).toInt64] M (fun r1 M1 => (isB r1 ∧ Q r1 M1))) :
    G κ mX11_isPerson 0 [.ref 119, .int l1] [] M Q := by
  refine g_iload_n (i := 1) dX11_isPerson_0 rfl rfl ?_
  refine g_i2l dX11_isPerson_1 ?_
  refine g_lconst (v := (0 : Int64)) dX11_isPerson_2 (by decide) ?_
  refine g_aload_n (i := 0) dX11_isPerson_3 rfl rfl ?_
  refine gf_RX11_60 rfl dX11_isPerson_4 sh_119 ?_
  refine g_iconst (v := (1 : Int32)) dX11_isPerson_7 (by decide) ?_
  refine g_isub dX11_isPerson_8 ?_
  refine g_i2l dX11_isPerson_9 ?_
  refine gc_RX11_63 rfl (Nat.le_of_ble_eq_true rfl) dX11_isPerson_10 (Nat.le_of_ble_eq_true rfl) ?_
  refine Cl.mono h (fun r1 M1 h => ?_)
  exact g_zret dX11_isPerson_13 rfl (isB_n h.1) h.2
theorem eX11_isPerson {κ : gK} {M : MM} {Q : Int32 → MM → Prop} (l1 : Int32)
    (h : G κ mX11_isPerson 0 [.ref 119, .int l1] [] M Q) : Cl κ mX11_isPerson [.ref 119, .int l1] M Q := g_entry 0 pl_X11_isPerson (Nat.le_of_ble_eq_true rfl) (L := [.ref 119, .int l1]) rfl (g_sub _ (sub_c (Or.inr rfl) (sub_c (Or.inr rfl) sub_n)) h)
theorem dX11_isLayer_0 : decode cX11_isLayer 0 = .ok (.iload_n 1, 1) := by decide +kernel
theorem dX11_isLayer_1 : decode cX11_isLayer 1 = .ok (.i2l, 1) := by decide +kernel
theorem dX11_isLayer_2 : decode cX11_isLayer 2 = .ok (.lconst 0, 1) := by decide +kernel
theorem dX11_isLayer_3 : decode cX11_isLayer 3 = .ok (.aload_n 0, 1) := by decide +kernel
theorem dX11_isLayer_4 : decode cX11_isLayer 4 = .ok (.getfield 67, 3) := by decide +kernel
theorem dX11_isLayer_7 : decode cX11_isLayer 7 = .ok (.iconst 1, 1) := by decide +kernel
theorem dX11_isLayer_8 : decode cX11_isLayer 8 = .ok (.isub, 1) := by decide +kernel
theorem dX11_isLayer_9 : decode cX11_isLayer 9 = .ok (.i2l, 1) := by decide +kernel
theorem dX11_isLayer_10 : decode cX11_isLayer 10 = .ok (.invokestatic 63, 3) := by decide +kernel
theorem dX11_isLayer_13 : decode cX11_isLayer 13 = .ok (.ireturn, 1) := by decide +kernel
theorem bX11_isLayer_0 {κ : gK} {M : MM} {Q : Int32 → MM → Prop} (l1 : Int32)
    (h : Cl κ mX11_in [.long (l1).toInt64, .long (0 : Int64), .long (((M 119 0) - (1 : Int32))).toInt64] M (fun r1 M1 => (isB r1 ∧ Q r1 M1))) :
    G κ mX11_isLayer 0 [.ref 119, .int l1] [] M Q := by
  refine g_iload_n (i := 1) dX11_isLayer_0 rfl rfl ?_
  refine g_i2l dX11_isLayer_1 ?_
  refine g_lconst (v := (0 : Int64)) dX11_isLayer_2 (by decide) ?_
  refine g_aload_n (i := 0) dX11_isLayer_3 rfl rfl ?_
  refine gf_RX11_67 rfl dX11_isLayer_4 sh_119 ?_
  refine g_iconst (v := (1 : Int32)) dX11_isLayer_7 (by decide) ?_
  refine g_isub dX11_isLayer_8 ?_
  refine g_i2l dX11_isLayer_9 ?_
  refine gc_RX11_63 rfl (Nat.le_of_ble_eq_true rfl) dX11_isLayer_10 (Nat.le_of_ble_eq_true rfl) ?_
  refine Cl.mono h (fun r1 M1 h => ?_)
  exact g_zret dX11_isLayer_13 rfl (isB_n h.1) h.2
theorem eX11_isLayer {κ : gK} {M : MM} {Q : Int32 → MM → Prop} (l1 : Int32)
    (h : G κ mX11_isLayer 0 [.ref 119, .int l1] [] M Q) : Cl κ mX11_isLayer [.ref 119, .int l1] M Q := g_entry 0 pl_X11_isLayer (Nat.le_of_ble_eq_true rfl) (L := [.ref 119, .int l1]) rfl (g_sub _ (sub_c (Or.inr rfl) (sub_c (Or.inr rfl) sub_n)) h)
theorem dX11_isTown_0 : decode cX11_isTown 0 = .ok (.aload_n 0, 1) := by decide +kernel
theorem dX11_isTown_1 : decode cX11_isTown 1 = .ok (.getfield 67, 3) := by decide +kernel
theorem dX11_isTown_4 : decode cX11_isTown 4 = .ok (.ifCond .le 7, 3) := by decide +kernel
theorem dX11_isTown_7 : decode cX11_isTown 7 = .ok (.iconst 1, 1) := by decide +kernel
theorem dX11_isTown_8 : decode cX11_isTown 8 = .ok (.goto 4, 3) := by decide +kernel
theorem dX11_isTown_11 : decode cX11_isTown 11 = .ok (.iconst 0, 1) := by decide +kernel
theorem dX11_isTown_12 : decode cX11_isTown 12 = .ok (.ireturn, 1) := by decide +kernel
theorem bX11_isTown_0 {κ : gK} {M : MM} {Q : Int32 → MM → Prop} 
    (h : (((M 119 0) ≤ 0 → G κ mX11_isTown 12 [.null] [.int (0 : Int32)] M Q) ∧ (¬ (M 119 0) ≤ 0 → G κ mX11_isTown 12 [.null] [.int (1 : Int32)] M Q))) :
    G κ mX11_isTown 0 [.ref 119] [] M Q := by
  refine g_aload_n (i := 0) dX11_isTown_0 rfl rfl ?_
  refine gf_RX11_67 rfl dX11_isTown_1 sh_119 ?_
  refine g_if_le (tgt := 11) dX11_isTown_4 rfl ⟨fun hc => ?_, fun hc => ?_⟩
  · replace h := h.1 hc
    refine g_iconst (v := (0 : Int32)) dX11_isTown_11 (by decide) ?_
    exact g_sub _ (sub_c (Or.inl rfl) sub_n) h
  · replace h := h.2 hc
    refine g_iconst (v := (1 : Int32)) dX11_isTown_7 (by decide) ?_
    refine g_goto (tgt := 12) dX11_isTown_8 rfl ?_
    exact g_sub _ (sub_c (Or.inl rfl) sub_n) h
theorem bX11_isTown_12 {κ : gK} {M : MM} {Q : Int32 → MM → Prop} (s0 : Int32)
    (h : (isB s0 ∧ Q s0 M)) :
    G κ mX11_isTown 12 [.null] [.int s0] M Q := by
  exact g_zret dX11_isTown_12 rfl (isB_n h.1) h.2
theorem eX11_isTown {κ : gK} {M : MM} {Q : Int32 → MM → Prop} 
    (h : G κ mX11_isTown 0 [.ref 119] [] M Q) : Cl κ mX11_isTown [.ref 119] M Q := g_entry 0 pl_X11_isTown (Nat.le_of_ble_eq_true rfl) (L := [.ref 119]) rfl (g_sub _ (sub_c (Or.inr rfl) sub_n) h)
theorem dX11_areThere_0 : decode cX11_areThere 0 = .ok (.iload_n 1, 1) := by decide +kernel
theorem dX11_areThere_1 : decode cX11_areThere 1 = .ok (.i2l, 1) := by decide +kernel
theorem dX11_areThere_2 : decode cX11_areThere 2 = .ok (.lconst 0, 1) := by decide +kernel
theorem dX11_areThere_3 : decode cX11_areThere 3 = .ok (.iconst 1, 1) := by decide +kernel
theorem dX11_areThere_4 : decode cX11_areThere 4 = .ok (.aload_n 0, 1) := by decide +kernel
theorem dX11_areThere_5 : decode cX11_areThere 5 = .ok (.getfield 60, 3) := by decide +kernel
theorem dX11_areThere_8 : decode cX11_areThere 8 = .ok (.ishl, 1) := by decide +kernel
theorem dX11_areThere_9 : decode cX11_areThere 9 = .ok (.iconst 1, 1) := by decide +kernel
theorem dX11_areThere_10 : decode cX11_areThere 10 = .ok (.isub, 1) := by decide +kernel
theorem dX11_areThere_11 : decode cX11_areThere 11 = .ok (.i2l, 1) := by decide +kernel
theorem dX11_areThere_12 : decode cX11_areThere 12 = .ok (.invokestatic 63, 3) := by decide +kernel
theorem dX11_areThere_15 : decode cX11_areThere 15 = .ok (.ireturn, 1) := by decide +kernel
theorem bX11_areThere_0 {κ : gK} {M : MM} {Q : Int32 → MM → Prop} (l1 : Int32)
    (h : Cl κ mX11_in [.long (l1).toInt64, .long (0 : Int64), .long (((jshl (1 : Int32) (M 119 2)) - (1 : Int32))).toInt64] M (fun r1 M1 => (isB r1 ∧ Q r1 M1))) :
    G κ mX11_areThere 0 [.ref 119, .int l1] [] M Q := by
  refine g_iload_n (i := 1) dX11_areThere_0 rfl rfl ?_
  refine g_i2l dX11_areThere_1 ?_
  refine g_lconst (v := (0 : Int64)) dX11_areThere_2 (by decide) ?_
  refine g_iconst (v := (1 : Int32)) dX11_areThere_3 (by decide) ?_
  refine g_aload_n (i := 0) dX11_areThere_4 rfl rfl ?_
  refine gf_RX11_60 rfl dX11_areThere_5 sh_119 ?_
  refine g_ishl dX11_areThere_8 ?_
  refine g_iconst (v := (1 : Int32)) dX11_areThere_9 (by decide) ?_
  refine g_isub dX11_areThere_10 ?_
  refine g_i2l dX11_areThere_11 ?_
  refine gc_RX11_63 rfl (Nat.le_of_ble_eq_true rfl) dX11_areThere_12 (Nat.le_of_ble_eq_true rfl) ?_
  refine Cl.mono h (fun r1 M1 h => ?_)
  exact g_zret dX11_areThere_15 rfl (isB_n h.1) h.2
theorem eX11_areThere {κ : gK} {M : MM} {Q : Int32 → MM → Prop} (l1 : Int32)
    (h : G κ mX11_areThere 0 [.ref 119, .int l1] [] M Q) : Cl κ mX11_areThere [.ref 119, .int l1] M Q := g_entry 0 pl_X11_areThere (Nat.le_of_ble_eq_true rfl) (L := [.ref 119, .int l1]) rfl (g_sub _ (sub_c (Or.inr rfl) (sub_c (Or.inr rfl) sub_n)) h)
theorem dX11_layersOf_0 : decode cX11_layersOf 0 = .ok (.aload_n 0, 1) := by decide +kernel
theorem dX11_layersOf_1 : decode cX11_layersOf 1 = .ok (.getfield 16, 3) := by decide +kernel
theorem dX11_layersOf_4 : decode cX11_layersOf 4 = .ok (.iconst 2, 1) := by decide +kernel
theorem dX11_layersOf_5 : decode cX11_layersOf 5 = .ok (.iload_n 1, 1) := by decide +kernel
theorem dX11_layersOf_6 : decode cX11_layersOf 6 = .ok (.iadd, 1) := by decide +kernel
theorem dX11_layersOf_7 : decode cX11_layersOf 7 = .ok (.iaload, 1) := by decide +kernel
theorem dX11_layersOf_8 : decode cX11_layersOf 8 = .ok (.ireturn, 1) := by decide +kernel
theorem bX11_layersOf_0 {κ : gK} {M : MM} {Q : Int32 → MM → Prop} (l1 : Int32)
    (h : (vp_in ((2 : Int32) + l1) 26) ∧ (Q (M 122 (((2 : Int32) + l1)).toNatClampNeg) M)) :
    G κ mX11_layersOf 0 [.ref 119, .int l1] [] M Q := by
  refine g_aload_n (i := 0) dX11_layersOf_0 rfl rfl ?_
  refine gf_RX11_16 rfl dX11_layersOf_1 sh_119 ?_
  refine g_iconst (v := (2 : Int32)) dX11_layersOf_4 (by decide) ?_
  refine g_iload_n (i := 1) dX11_layersOf_5 rfl rfl ?_
  refine g_iadd dX11_layersOf_6 ?_
  have hv1 := h.1; replace h := h.2
  refine g_iald dX11_layersOf_7 sh_122 hv1 ?_
  exact g_iret dX11_layersOf_8 rfl h
theorem eX11_layersOf {κ : gK} {M : MM} {Q : Int32 → MM → Prop} (l1 : Int32)
    (h : G κ mX11_layersOf 0 [.ref 119, .int l1] [] M Q) : Cl κ mX11_layersOf [.ref 119, .int l1] M Q := g_entry 0 pl_X11_layersOf (Nat.le_of_ble_eq_true rfl) (L := [.ref 119, .int l1]) rfl (g_sub _ (sub_c (Or.inr rfl) (sub_c (Or.inr rfl) sub_n)) h)
theorem dX11_isOn_0 : decode cX11_isOn 0 = .ok (.aload_n 0, 1) := by decide +kernel
theorem dX11_isOn_1 : decode cX11_isOn 1 = .ok (.iload_n 1, 1) := by decide +kernel
theorem dX11_isOn_2 : decode cX11_isOn 2 = .ok (.invokevirtual 70, 3) := by decide +kernel
theorem dX11_isOn_5 : decode cX11_isOn 5 = .ok (.iload_n 2, 1) := by decide +kernel
theorem dX11_isOn_6 : decode cX11_isOn 6 = .ok (.ishr, 1) := by decide +kernel
theorem dX11_isOn_7 : decode cX11_isOn 7 = .ok (.iconst 1, 1) := by decide +kernel
theorem dX11_isOn_8 : decode cX11_isOn 8 = .ok (.iand, 1) := by decide +kernel
theorem dX11_isOn_9 : decode cX11_isOn 9 = .ok (.iconst 1, 1) := by decide +kernel
theorem dX11_isOn_10 : decode cX11_isOn 10 = .ok (.if_icmp .ne 7, 3) := by decide +kernel
theorem dX11_isOn_13 : decode cX11_isOn 13 = .ok (.iconst 1, 1) := by decide +kernel
theorem dX11_isOn_14 : decode cX11_isOn 14 = .ok (.goto 4, 3) := by decide +kernel
theorem dX11_isOn_17 : decode cX11_isOn 17 = .ok (.iconst 0, 1) := by decide +kernel
theorem dX11_isOn_18 : decode cX11_isOn 18 = .ok (.ireturn, 1) := by decide +kernel
theorem bX11_isOn_0 {κ : gK} {M : MM} {Q : Int32 → MM → Prop} (l1 : Int32) (l2 : Int32)
    (h : Cl κ mX11_layersOf [.ref 119, .int l1] M (fun r1 M1 => ((((jshr r1 l2) &&& (1 : Int32)) = (1 : Int32) → G κ mX11_isOn 18 [.null, .null, .null] [.int (1 : Int32)] M1 Q) ∧ (¬ ((jshr r1 l2) &&& (1 : Int32)) = (1 : Int32) → G κ mX11_isOn 18 [.null, .null, .null] [.int (0 : Int32)] M1 Q)))) :
    G κ mX11_isOn 0 [.ref 119, .int l1, .int l2] [] M Q := by
  refine g_aload_n (i := 0) dX11_isOn_0 rfl rfl ?_
  refine g_iload_n (i := 1) dX11_isOn_1 rfl rfl ?_
  refine gc_RX11_70 rfl (Nat.le_of_ble_eq_true rfl) dX11_isOn_2 sh_119 (Nat.le_of_ble_eq_true rfl) ?_
  refine Cl.mono h (fun r1 M1 h => ?_)
  refine g_iload_n (i := 2) dX11_isOn_5 rfl rfl ?_
  refine g_ishr dX11_isOn_6 ?_
  refine g_iconst (v := (1 : Int32)) dX11_isOn_7 (by decide) ?_
  refine g_iand dX11_isOn_8 ?_
  refine g_iconst (v := (1 : Int32)) dX11_isOn_9 (by decide) ?_
  refine g_icmp_ne (tgt := 17) dX11_isOn_10 rfl ⟨fun hc => ?_, fun hc => ?_⟩
  · replace h := h.1 hc
    refine g_iconst (v := (1 : Int32)) dX11_isOn_13 (by decide) ?_
    refine g_goto (tgt := 18) dX11_isOn_14 rfl ?_
    exact g_sub _ (sub_c (Or.inl rfl) (sub_c (Or.inl rfl) (sub_c (Or.inl rfl) sub_n))) h
  · replace h := h.2 hc
    refine g_iconst (v := (0 : Int32)) dX11_isOn_17 (by decide) ?_
    exact g_sub _ (sub_c (Or.inl rfl) (sub_c (Or.inl rfl) (sub_c (Or.inl rfl) sub_n))) h
theorem bX11_isOn_18 {κ : gK} {M : MM} {Q : Int32 → MM → Prop} (s0 : Int32)
    (h : (isB s0 ∧ Q s0 M)) :
    G κ mX11_isOn 18 [.null, .null, .null] [.int s0] M Q := by
  exact g_zret dX11_isOn_18 rfl (isB_n h.1) h.2
theorem eX11_isOn {κ : gK} {M : MM} {Q : Int32 → MM → Prop} (l1 : Int32) (l2 : Int32)
    (h : G κ mX11_isOn 0 [.ref 119, .int l1, .int l2] [] M Q) : Cl κ mX11_isOn [.ref 119, .int l1, .int l2] M Q := g_entry 0 pl_X11_isOn (Nat.le_of_ble_eq_true rfl) (L := [.ref 119, .int l1, .int l2]) rfl (g_sub _ (sub_c (Or.inr rfl) (sub_c (Or.inr rfl) (sub_c (Or.inr rfl) sub_n))) h)
theorem dX11_on_0 : decode cX11_on 0 = .ok (.aload_n 0, 1) := by decide +kernel
theorem dX11_on_1 : decode cX11_on 1 = .ok (.getfield 67, 3) := by decide +kernel
theorem dX11_on_4 : decode cX11_on 4 = .ok (.ifCond .ne 7, 3) := by decide +kernel
theorem dX11_on_7 : decode cX11_on 7 = .ok (.iconst 0, 1) := by decide +kernel
theorem dX11_on_8 : decode cX11_on 8 = .ok (.goto 9, 3) := by decide +kernel
theorem dX11_on_11 : decode cX11_on 11 = .ok (.iload_n 2, 1) := by decide +kernel
theorem dX11_on_12 : decode cX11_on 12 = .ok (.aload_n 0, 1) := by decide +kernel
theorem dX11_on_13 : decode cX11_on 13 = .ok (.getfield 67, 3) := by decide +kernel
theorem dX11_on_16 : decode cX11_on 16 = .ok (.irem, 1) := by decide +kernel
theorem dX11_on_17 : decode cX11_on 17 = .ok (.istore_n 3, 1) := by decide +kernel
theorem dX11_on_18 : decode cX11_on 18 = .ok (.iload_n 1, 1) := by decide +kernel
theorem dX11_on_19 : decode cX11_on 19 = .ok (.iload_n 3, 1) := by decide +kernel
theorem dX11_on_20 : decode cX11_on 20 = .ok (.ishl, 1) := by decide +kernel
theorem dX11_on_21 : decode cX11_on 21 = .ok (.iload_n 1, 1) := by decide +kernel
theorem dX11_on_22 : decode cX11_on 22 = .ok (.aload_n 0, 1) := by decide +kernel
theorem dX11_on_23 : decode cX11_on 23 = .ok (.getfield 67, 3) := by decide +kernel
theorem dX11_on_26 : decode cX11_on 26 = .ok (.iload_n 3, 1) := by decide +kernel
theorem dX11_on_27 : decode cX11_on 27 = .ok (.isub, 1) := by decide +kernel
theorem dX11_on_28 : decode cX11_on 28 = .ok (.ishr, 1) := by decide +kernel
theorem dX11_on_29 : decode cX11_on 29 = .ok (.ior, 1) := by decide +kernel
theorem dX11_on_30 : decode cX11_on 30 = .ok (.iconst 1, 1) := by decide +kernel
theorem dX11_on_31 : decode cX11_on 31 = .ok (.aload_n 0, 1) := by decide +kernel
theorem dX11_on_32 : decode cX11_on 32 = .ok (.getfield 67, 3) := by decide +kernel
theorem dX11_on_35 : decode cX11_on 35 = .ok (.ishl, 1) := by decide +kernel
theorem dX11_on_36 : decode cX11_on 36 = .ok (.iconst 1, 1) := by decide +kernel
theorem dX11_on_37 : decode cX11_on 37 = .ok (.isub, 1) := by decide +kernel
theorem dX11_on_38 : decode cX11_on 38 = .ok (.iand, 1) := by decide +kernel
theorem dX11_on_39 : decode cX11_on 39 = .ok (.ireturn, 1) := by decide +kernel
theorem bX11_on_0 {κ : gK} {M : MM} {Q : Int32 → MM → Prop} (l1 : Int32) (l2 : Int32)
    (h : (((M 119 0) = 0 → G κ mX11_on 17 [.ref 119, .int l1, .null, .null] [.int (0 : Int32)] M Q) ∧ (¬ (M 119 0) = 0 → (¬ (M 119 0) = 0) ∧ (G κ mX11_on 17 [.ref 119, .int l1, .null, .null] [.int (irm l2 (M 119 0))] M Q)))) :
    G κ mX11_on 0 [.ref 119, .int l1, .int l2, .null] [] M Q := by
  refine g_aload_n (i := 0) dX11_on_0 rfl rfl ?_
  refine gf_RX11_67 rfl dX11_on_1 sh_119 ?_
  refine g_if_ne (tgt := 11) dX11_on_4 rfl ⟨fun hc => ?_, fun hc => ?_⟩
  · replace h := h.1 hc
    refine g_iconst (v := (0 : Int32)) dX11_on_7 (by decide) ?_
    refine g_goto (tgt := 17) dX11_on_8 rfl ?_
    exact g_sub _ (sub_c (Or.inr rfl) (sub_c (Or.inr rfl) (sub_c (Or.inl rfl) (sub_c (Or.inr rfl) sub_n)))) h
  · replace h := h.2 hc
    refine g_iload_n (i := 2) dX11_on_11 rfl rfl ?_
    refine g_aload_n (i := 0) dX11_on_12 rfl rfl ?_
    refine gf_RX11_67 rfl dX11_on_13 sh_119 ?_
    have hv1 := h.1; replace h := h.2
    refine g_irem dX11_on_16 hv1 ?_
    exact g_sub _ (sub_c (Or.inr rfl) (sub_c (Or.inr rfl) (sub_c (Or.inl rfl) (sub_c (Or.inr rfl) sub_n)))) h
theorem bX11_on_17 {κ : gK} {M : MM} {Q : Int32 → MM → Prop} (l1 : Int32) (s0 : Int32)
    (h : Q (((jshl l1 s0) ||| (jshr l1 ((M 119 0) - s0))) &&& ((jshl (1 : Int32) (M 119 0)) - (1 : Int32))) M) :
    G κ mX11_on 17 [.ref 119, .int l1, .null, .null] [.int s0] M Q := by
  refine g_istore_n (i := 3) (L' := [.ref 119, .int l1, .null, .int s0]) dX11_on_17 rfl (Nat.le_of_ble_eq_true rfl) rfl rfl ?_
  refine g_iload_n (i := 1) dX11_on_18 rfl rfl ?_
  refine g_iload_n (i := 3) dX11_on_19 rfl rfl ?_
  refine g_ishl dX11_on_20 ?_
  refine g_iload_n (i := 1) dX11_on_21 rfl rfl ?_
  refine g_aload_n (i := 0) dX11_on_22 rfl rfl ?_
  refine gf_RX11_67 rfl dX11_on_23 sh_119 ?_
  refine g_iload_n (i := 3) dX11_on_26 rfl rfl ?_
  refine g_isub dX11_on_27 ?_
  refine g_ishr dX11_on_28 ?_
  refine g_ior dX11_on_29 ?_
  refine g_iconst (v := (1 : Int32)) dX11_on_30 (by decide) ?_
  refine g_aload_n (i := 0) dX11_on_31 rfl rfl ?_
  refine gf_RX11_67 rfl dX11_on_32 sh_119 ?_
  refine g_ishl dX11_on_35 ?_
  refine g_iconst (v := (1 : Int32)) dX11_on_36 (by decide) ?_
  refine g_isub dX11_on_37 ?_
  refine g_iand dX11_on_38 ?_
  exact g_iret dX11_on_39 rfl h
theorem eX11_on {κ : gK} {M : MM} {Q : Int32 → MM → Prop} (l1 : Int32) (l2 : Int32)
    (h : G κ mX11_on 0 [.ref 119, .int l1, .int l2, .null] [] M Q) : Cl κ mX11_on [.ref 119, .int l1, .int l2] M Q := g_entry 1 pl_X11_on (Nat.le_of_ble_eq_true rfl) (L := [.ref 119, .int l1, .int l2, .null]) rfl (g_sub _ (sub_c (Or.inr rfl) (sub_c (Or.inr rfl) (sub_c (Or.inr rfl) (sub_c (Or.inr rfl) sub_n)))) h)
theorem dX11_many_0 : decode cX11_many 0 = .ok (.iconst 0, 1) := by decide +kernel
theorem dX11_many_1 : decode cX11_many 1 = .ok (.istore_n 1, 1) := by decide +kernel
theorem dX11_many_2 : decode cX11_many 2 = .ok (.iload_n 0, 1) := by decide +kernel
theorem dX11_many_3 : decode cX11_many 3 = .ok (.istore_n 2, 1) := by decide +kernel
theorem dX11_many_4 : decode cX11_many 4 = .ok (.iload_n 2, 1) := by decide +kernel
theorem dX11_many_5 : decode cX11_many 5 = .ok (.ifCond .eq 15, 3) := by decide +kernel
theorem dX11_many_8 : decode cX11_many 8 = .ok (.iinc 1 1, 3) := by decide +kernel
theorem dX11_many_11 : decode cX11_many 11 = .ok (.iload_n 2, 1) := by decide +kernel
theorem dX11_many_12 : decode cX11_many 12 = .ok (.iload_n 2, 1) := by decide +kernel
theorem dX11_many_13 : decode cX11_many 13 = .ok (.iconst 1, 1) := by decide +kernel
theorem dX11_many_14 : decode cX11_many 14 = .ok (.isub, 1) := by decide +kernel
theorem dX11_many_15 : decode cX11_many 15 = .ok (.iand, 1) := by decide +kernel
theorem dX11_many_16 : decode cX11_many 16 = .ok (.istore_n 2, 1) := by decide +kernel
theorem dX11_many_17 : decode cX11_many 17 = .ok (.goto (-13), 3) := by decide +kernel
theorem dX11_many_20 : decode cX11_many 20 = .ok (.iload_n 1, 1) := by decide +kernel
theorem dX11_many_21 : decode cX11_many 21 = .ok (.ireturn, 1) := by decide +kernel
theorem bX11_many_0 {κ : gK} {M : MM} {Q : Int32 → MM → Prop} (l0 : Int32)
    (h : G κ mX11_many 4 [.null, .int (0 : Int32), .int l0] [] M Q) :
    G κ mX11_many 0 [.int l0, .null, .null] [] M Q := by
  refine g_iconst (v := (0 : Int32)) dX11_many_0 (by decide) ?_
  refine g_istore_n (i := 1) (L' := [.int l0, .int (0 : Int32), .null]) dX11_many_1 rfl (Nat.le_of_ble_eq_true rfl) rfl rfl ?_
  refine g_iload_n (i := 0) dX11_many_2 rfl rfl ?_
  refine g_istore_n (i := 2) (L' := [.int l0, .int (0 : Int32), .int l0]) dX11_many_3 rfl (Nat.le_of_ble_eq_true rfl) rfl rfl ?_
  exact g_sub _ (sub_c (Or.inl rfl) (sub_c (Or.inr rfl) (sub_c (Or.inr rfl) sub_n))) h
theorem bX11_many_4 {κ : gK} {M : MM} {Q : Int32 → MM → Prop} (l1 : Int32) (l2 : Int32)
    (h : ((l2 = 0 → Q l1 M) ∧ (¬ l2 = 0 → ∀ v1 : Int32, v1 = (l2 &&& (l2 - (1 : Int32))) → (G κ mX11_many 4 [.null, .int (l1 + 1), .int v1] [] M Q)))) :
    G κ mX11_many 4 [.null, .int l1, .int l2] [] M Q := by
  refine g_iload_n (i := 2) dX11_many_4 rfl rfl ?_
  refine g_if_eq (tgt := 20) dX11_many_5 rfl ⟨fun hc => ?_, fun hc => ?_⟩
  · replace h := h.1 hc
    refine g_iload_n (i := 1) dX11_many_20 rfl rfl ?_
    exact g_iret dX11_many_21 rfl h
  · replace h := h.2 hc
    refine g_iinc (v := (l1 + 1)) (L' := [.null, .int (l1 + 1), .int l2]) dX11_many_8 rfl rfl (Nat.le_of_ble_eq_true rfl) rfl rfl ?_
    refine g_iload_n (i := 2) dX11_many_11 rfl rfl ?_
    refine g_iload_n (i := 2) dX11_many_12 rfl rfl ?_
    refine g_iconst (v := (1 : Int32)) dX11_many_13 (by decide) ?_
    refine g_isub dX11_many_14 ?_
    refine g_iand dX11_many_15 ?_
    refine lv_nm (fun v1 hn1 => ?_) (x := (l2 &&& (l2 - (1 : Int32))))
    replace h := h v1 hn1
    refine g_istore_n (i := 2) (L' := [.null, .int (l1 + 1), .int v1]) dX11_many_16 rfl (Nat.le_of_ble_eq_true rfl) rfl rfl ?_
    refine g_goto (tgt := 4) dX11_many_17 rfl ?_
    exact h
theorem eX11_many {κ : gK} {M : MM} {Q : Int32 → MM → Prop} (l0 : Int32)
    (h : G κ mX11_many 0 [.int l0, .null, .null] [] M Q) : Cl κ mX11_many [.int l0] M Q := g_entry 2 pl_X11_many (Nat.le_of_ble_eq_true rfl) (L := [.int l0, .null, .null]) rfl (g_sub _ (sub_c (Or.inr rfl) (sub_c (Or.inr rfl) (sub_c (Or.inr rfl) sub_n))) h)
theorem dX11_lightOf_0 : decode cX11_lightOf 0 = .ok (.aload_n 0, 1) := by decide +kernel
theorem dX11_lightOf_1 : decode cX11_lightOf 1 = .ok (.getfield 74, 3) := by decide +kernel
theorem dX11_lightOf_4 : decode cX11_lightOf 4 = .ok (.ifCond .ne 7, 3) := by decide +kernel
theorem dX11_lightOf_7 : decode cX11_lightOf 7 = .ok (.iconst 5, 1) := by decide +kernel
theorem dX11_lightOf_8 : decode cX11_lightOf 8 = .ok (.goto 14, 3) := by decide +kernel
theorem dX11_lightOf_11 : decode cX11_lightOf 11 = .ok (.aload_n 0, 1) := by decide +kernel
theorem dX11_lightOf_12 : decode cX11_lightOf 12 = .ok (.getfield 13, 3) := by decide +kernel
theorem dX11_lightOf_15 : decode cX11_lightOf 15 = .ok (.iload_n 1, 1) := by decide +kernel
theorem dX11_lightOf_16 : decode cX11_lightOf 16 = .ok (.aload_n 0, 1) := by decide +kernel
theorem dX11_lightOf_17 : decode cX11_lightOf 17 = .ok (.getfield 74, 3) := by decide +kernel
theorem dX11_lightOf_20 : decode cX11_lightOf 20 = .ok (.irem, 1) := by decide +kernel
theorem dX11_lightOf_21 : decode cX11_lightOf 21 = .ok (.iaload, 1) := by decide +kernel
theorem dX11_lightOf_22 : decode cX11_lightOf 22 = .ok (.ireturn, 1) := by decide +kernel
theorem bX11_lightOf_0 {κ : gK} {M : MM} {Q : Int32 → MM → Prop} (l1 : Int32)
    (h : (((M 119 5) = 0 → G κ mX11_lightOf 22 [.null, .null] [.int (5 : Int32)] M Q) ∧ (¬ (M 119 5) = 0 → (¬ (M 119 5) = 0) ∧ ((vp_in (irm l1 (M 119 5)) 12) ∧ (G κ mX11_lightOf 22 [.null, .null] [.int (M 121 ((irm l1 (M 119 5))).toNatClampNeg)] M Q))))) :
    G κ mX11_lightOf 0 [.ref 119, .int l1] [] M Q := by
  refine g_aload_n (i := 0) dX11_lightOf_0 rfl rfl ?_
  refine gf_RX11_74 rfl dX11_lightOf_1 sh_119 ?_
  refine g_if_ne (tgt := 11) dX11_lightOf_4 rfl ⟨fun hc => ?_, fun hc => ?_⟩
  · replace h := h.1 hc
    refine g_iconst (v := (5 : Int32)) dX11_lightOf_7 (by decide) ?_
    refine g_goto (tgt := 22) dX11_lightOf_8 rfl ?_
    exact g_sub _ (sub_c (Or.inl rfl) (sub_c (Or.inl rfl) sub_n)) h
  · replace h := h.2 hc
    refine g_aload_n (i := 0) dX11_lightOf_11 rfl rfl ?_
    refine gf_RX11_13 rfl dX11_lightOf_12 sh_119 ?_
    refine g_iload_n (i := 1) dX11_lightOf_15 rfl rfl ?_
    refine g_aload_n (i := 0) dX11_lightOf_16 rfl rfl ?_
    refine gf_RX11_74 rfl dX11_lightOf_17 sh_119 ?_
    have hv1 := h.1; replace h := h.2
    refine g_irem dX11_lightOf_20 hv1 ?_
    have hv2 := h.1; replace h := h.2
    refine g_iald dX11_lightOf_21 sh_121 hv2 ?_
    exact g_sub _ (sub_c (Or.inl rfl) (sub_c (Or.inl rfl) sub_n)) h
theorem bX11_lightOf_22 {κ : gK} {M : MM} {Q : Int32 → MM → Prop} (s0 : Int32)
    (h : Q s0 M) :
    G κ mX11_lightOf 22 [.null, .null] [.int s0] M Q := by
  exact g_iret dX11_lightOf_22 rfl h
theorem eX11_lightOf {κ : gK} {M : MM} {Q : Int32 → MM → Prop} (l1 : Int32)
    (h : G κ mX11_lightOf 0 [.ref 119, .int l1] [] M Q) : Cl κ mX11_lightOf [.ref 119, .int l1] M Q := g_entry 0 pl_X11_lightOf (Nat.le_of_ble_eq_true rfl) (L := [.ref 119, .int l1]) rfl (g_sub _ (sub_c (Or.inr rfl) (sub_c (Or.inr rfl) sub_n)) h)
theorem dX11_crowed_0 : decode cX11_crowed 0 = .ok (.iload_n 1, 1) := by decide +kernel
theorem dX11_crowed_1 : decode cX11_crowed 1 = .ok (.tableswitch 66 0 3 #[31, 38, 45, 54], 31) := by decide +kernel
theorem dX11_crowed_32 : decode cX11_crowed 32 = .ok (.aload_n 0, 1) := by decide +kernel
theorem dX11_crowed_33 : decode cX11_crowed 33 = .ok (.iload_n 2, 1) := by decide +kernel
theorem dX11_crowed_34 : decode cX11_crowed 34 = .ok (.iconst 1, 1) := by decide +kernel
theorem dX11_crowed_35 : decode cX11_crowed 35 = .ok (.invokevirtual 77, 3) := by decide +kernel
theorem dX11_crowed_38 : decode cX11_crowed 38 = .ok (.ireturn, 1) := by decide +kernel
theorem dX11_crowed_39 : decode cX11_crowed 39 = .ok (.aload_n 0, 1) := by decide +kernel
theorem dX11_crowed_40 : decode cX11_crowed 40 = .ok (.iload_n 2, 1) := by decide +kernel
theorem dX11_crowed_41 : decode cX11_crowed 41 = .ok (.iconst 2, 1) := by decide +kernel
theorem dX11_crowed_42 : decode cX11_crowed 42 = .ok (.invokevirtual 77, 3) := by decide +kernel
theorem dX11_crowed_45 : decode cX11_crowed 45 = .ok (.ireturn, 1) := by decide +kernel
theorem dX11_crowed_46 : decode cX11_crowed 46 = .ok (.iload_n 2, 1) := by decide +kernel
theorem dX11_crowed_47 : decode cX11_crowed 47 = .ok (.aload_n 0, 1) := by decide +kernel
theorem dX11_crowed_48 : decode cX11_crowed 48 = .ok (.iload_n 2, 1) := by decide +kernel
theorem dX11_crowed_49 : decode cX11_crowed 49 = .ok (.iconst 1, 1) := by decide +kernel
theorem dX11_crowed_50 : decode cX11_crowed 50 = .ok (.invokevirtual 77, 3) := by decide +kernel
theorem dX11_crowed_53 : decode cX11_crowed 53 = .ok (.ior, 1) := by decide +kernel
theorem dX11_crowed_54 : decode cX11_crowed 54 = .ok (.ireturn, 1) := by decide +kernel
theorem dX11_crowed_55 : decode cX11_crowed 55 = .ok (.aload_n 0, 1) := by decide +kernel
theorem dX11_crowed_56 : decode cX11_crowed 56 = .ok (.iload_n 2, 1) := by decide +kernel
theorem dX11_crowed_57 : decode cX11_crowed 57 = .ok (.aload_n 0, 1) := by decide +kernel
theorem dX11_crowed_58 : decode cX11_crowed 58 = .ok (.getfield 67, 3) := by decide +kernel
theorem dX11_crowed_61 : decode cX11_crowed 61 = .ok (.iconst 1, 1) := by decide +kernel
theorem dX11_crowed_62 : decode cX11_crowed 62 = .ok (.isub, 1) := by decide +kernel
theorem dX11_crowed_63 : decode cX11_crowed 63 = .ok (.invokevirtual 77, 3) := by decide +kernel
theorem dX11_crowed_66 : decode cX11_crowed 66 = .ok (.ireturn, 1) := by decide +kernel
theorem dX11_crowed_67 : decode cX11_crowed 67 = .ok (.iload_n 3, 1) := by decide +kernel
theorem dX11_crowed_68 : decode cX11_crowed 68 = .ok (.iconst 2, 1) := by decide +kernel
theorem dX11_crowed_69 : decode cX11_crowed 69 = .ok (.irem, 1) := by decide +kernel
theorem dX11_crowed_70 : decode cX11_crowed 70 = .ok (.ifCond .ne 12, 3) := by decide +kernel
theorem dX11_crowed_73 : decode cX11_crowed 73 = .ok (.aload_n 0, 1) := by decide +kernel
theorem dX11_crowed_74 : decode cX11_crowed 74 = .ok (.iload_n 2, 1) := by decide +kernel
theorem dX11_crowed_75 : decode cX11_crowed 75 = .ok (.iconst 1, 1) := by decide +kernel
theorem dX11_crowed_76 : decode cX11_crowed 76 = .ok (.invokevirtual 77, 3) := by decide +kernel
theorem dX11_crowed_79 : decode cX11_crowed 79 = .ok (.goto 4, 3) := by decide +kernel
theorem dX11_crowed_82 : decode cX11_crowed 82 = .ok (.iload_n 2, 1) := by decide +kernel
theorem dX11_crowed_83 : decode cX11_crowed 83 = .ok (.ireturn, 1) := by decide +kernel
theorem bX11_crowed_0 {κ : gK} {M : MM} {Q : Int32 → MM → Prop} (l1 : Int32) (l2 : Int32) (l3 : Int32)
    (h : ((l1 = (0 : Int32) → Cl κ mX11_on [.ref 119, .int l2, .int (1 : Int32)] M (fun r1 M1 => Q r1 M1)) ∧ (l1 = (1 : Int32) → Cl κ mX11_on [.ref 119, .int l2, .int (2 : Int32)] M (fun r2 M2 => Q r2 M2)) ∧ (l1 = (2 : Int32) → Cl κ mX11_on [.ref 119, .int l2, .int (1 : Int32)] M (fun r3 M3 => Q (l2 ||| r3) M3)) ∧ (l1 = (3 : Int32) → Cl κ mX11_on [.ref 119, .int l2, .int ((M 119 0) - (1 : Int32))] M (fun r4 M4 => Q r4 M4)) ∧ ((∀ k : Nat, k ≤ 3 → l1 ≠ nI k) → (((irm l3 (2 : Int32)) = 0 → Cl κ mX11_on [.ref 119, .int l2, .int (1 : Int32)] M (fun r5 M5 => G κ mX11_crowed 83 [.null, .null, .null, .null] [.int r5] M5 Q)) ∧ (¬ (irm l3 (2 : Int32)) = 0 → G κ mX11_crowed 83 [.null, .null, .null, .null] [.int l2] M Q))))) :
    G κ mX11_crowed 0 [.ref 119, .int l1, .int l2, .int l3] [] M Q := by
  refine g_iload_n (i := 1) dX11_crowed_0 rfl rfl ?_
  refine g_tab (hi := 3) (dt := 67) (fun k => ([32, 39, 46, 55] : List Nat).getD k 0) dX11_crowed_1 (by decide) (by decide) rfl (fun k hk hx => ?_) (fun hx => ?_)
  · rcases (show k = 0 ∨ k = 1 ∨ k = 2 ∨ k = 3 by omega) with rfl | rfl | rfl | rfl
    · replace h := h.1 hx
      show G κ mX11_crowed 32 _ _ _ _
      refine g_aload_n (i := 0) dX11_crowed_32 rfl rfl ?_
      refine g_iload_n (i := 2) dX11_crowed_33 rfl rfl ?_
      refine g_iconst (v := (1 : Int32)) dX11_crowed_34 (by decide) ?_
      refine gc_RX11_77 rfl (Nat.le_of_ble_eq_true rfl) dX11_crowed_35 sh_119 (Nat.le_of_ble_eq_true rfl) ?_
      refine Cl.mono h (fun r1 M1 h => ?_)
      exact g_iret dX11_crowed_38 rfl h
    · replace h := h.2.1 hx
      show G κ mX11_crowed 39 _ _ _ _
      refine g_aload_n (i := 0) dX11_crowed_39 rfl rfl ?_
      refine g_iload_n (i := 2) dX11_crowed_40 rfl rfl ?_
      refine g_iconst (v := (2 : Int32)) dX11_crowed_41 (by decide) ?_
      refine gc_RX11_77 rfl (Nat.le_of_ble_eq_true rfl) dX11_crowed_42 sh_119 (Nat.le_of_ble_eq_true rfl) ?_
      refine Cl.mono h (fun r2 M2 h => ?_)
      exact g_iret dX11_crowed_45 rfl h
    · replace h := h.2.2.1 hx
      show G κ mX11_crowed 46 _ _ _ _
      refine g_iload_n (i := 2) dX11_crowed_46 rfl rfl ?_
      refine g_aload_n (i := 0) dX11_crowed_47 rfl rfl ?_
      refine g_iload_n (i := 2) dX11_crowed_48 rfl rfl ?_
      refine g_iconst (v := (1 : Int32)) dX11_crowed_49 (by decide) ?_
      refine gc_RX11_77 rfl (Nat.le_of_ble_eq_true rfl) dX11_crowed_50 sh_119 (Nat.le_of_ble_eq_true rfl) ?_
      refine Cl.mono h (fun r3 M3 h => ?_)
      refine g_ior dX11_crowed_53 ?_
      exact g_iret dX11_crowed_54 rfl h
    · replace h := h.2.2.2.1 hx
      show G κ mX11_crowed 55 _ _ _ _
      refine g_aload_n (i := 0) dX11_crowed_55 rfl rfl ?_
      refine g_iload_n (i := 2) dX11_crowed_56 rfl rfl ?_
      refine g_aload_n (i := 0) dX11_crowed_57 rfl rfl ?_
      refine gf_RX11_67 rfl dX11_crowed_58 sh_119 ?_
      refine g_iconst (v := (1 : Int32)) dX11_crowed_61 (by decide) ?_
      refine g_isub dX11_crowed_62 ?_
      refine gc_RX11_77 rfl (Nat.le_of_ble_eq_true rfl) dX11_crowed_63 sh_119 (Nat.le_of_ble_eq_true rfl) ?_
      refine Cl.mono h (fun r4 M4 h => ?_)
      exact g_iret dX11_crowed_66 rfl h
  · replace h := h.2.2.2.2 hx
    refine g_iload_n (i := 3) dX11_crowed_67 rfl rfl ?_
    refine g_iconst (v := (2 : Int32)) dX11_crowed_68 (by decide) ?_
    refine g_irem dX11_crowed_69 (by decide) ?_
    refine g_if_ne (tgt := 82) dX11_crowed_70 rfl ⟨fun hc => ?_, fun hc => ?_⟩
    · replace h := h.1 hc
      refine g_aload_n (i := 0) dX11_crowed_73 rfl rfl ?_
      refine g_iload_n (i := 2) dX11_crowed_74 rfl rfl ?_
      refine g_iconst (v := (1 : Int32)) dX11_crowed_75 (by decide) ?_
      refine gc_RX11_77 rfl (Nat.le_of_ble_eq_true rfl) dX11_crowed_76 sh_119 (Nat.le_of_ble_eq_true rfl) ?_
      refine Cl.mono h (fun r5 M5 h => ?_)
      refine g_goto (tgt := 83) dX11_crowed_79 rfl ?_
      exact g_sub _ (sub_c (Or.inl rfl) (sub_c (Or.inl rfl) (sub_c (Or.inl rfl) (sub_c (Or.inl rfl) sub_n)))) h
    · replace h := h.2 hc
      refine g_iload_n (i := 2) dX11_crowed_82 rfl rfl ?_
      exact g_sub _ (sub_c (Or.inl rfl) (sub_c (Or.inl rfl) (sub_c (Or.inl rfl) (sub_c (Or.inl rfl) sub_n)))) h
theorem bX11_crowed_83 {κ : gK} {M : MM} {Q : Int32 → MM → Prop} (s0 : Int32)
    (h : Q s0 M) :
    G κ mX11_crowed 83 [.null, .null, .null, .null] [.int s0] M Q := by
  exact g_iret dX11_crowed_83 rfl h
theorem eX11_crowed {κ : gK} {M : MM} {Q : Int32 → MM → Prop} (l1 : Int32) (l2 : Int32) (l3 : Int32)
    (h : G κ mX11_crowed 0 [.ref 119, .int l1, .int l2, .int l3] [] M Q) : Cl κ mX11_crowed [.ref 119, .int l1, .int l2, .int l3] M Q := g_entry 0 pl_X11_crowed (Nat.le_of_ble_eq_true rfl) (L := [.ref 119, .int l1, .int l2, .int l3]) rfl (g_sub _ (sub_c (Or.inr rfl) (sub_c (Or.inr rfl) (sub_c (Or.inr rfl) (sub_c (Or.inr rfl) sub_n)))) h)
theorem dX11_hears_0 : decode cX11_hears 0 = .ok (.iconst 0, 1) := by decide +kernel
theorem dX11_hears_1 : decode cX11_hears 1 = .ok (.istore_n 2, 1) := by decide +kernel
theorem dX11_hears_2 : decode cX11_hears 2 = .ok (.iconst 0, 1) := by decide +kernel
theorem dX11_hears_3 : decode cX11_hears 3 = .ok (.istore_n 3, 1) := by decide +kernel
theorem dX11_hears_4 : decode cX11_hears 4 = .ok (.iload_n 3, 1) := by decide +kernel
theorem dX11_hears_5 : decode cX11_hears 5 = .ok (.aload_n 0, 1) := by decide +kernel
theorem dX11_hears_6 : decode cX11_hears 6 = .ok (.getfield 60, 3) := by decide +kernel
theorem dX11_hears_9 : decode cX11_hears 9 = .ok (.if_icmp .ge 32, 3) := by decide +kernel
theorem dX11_hears_12 : decode cX11_hears 12 = .ok (.iload_n 2, 1) := by decide +kernel
theorem dX11_hears_13 : decode cX11_hears 13 = .ok (.aload_n 0, 1) := by decide +kernel
theorem dX11_hears_14 : decode cX11_hears 14 = .ok (.getfield 16, 3) := by decide +kernel
theorem dX11_hears_17 : decode cX11_hears 17 = .ok (.bipush 10, 2) := by decide +kernel
theorem dX11_hears_19 : decode cX11_hears 19 = .ok (.iload_n 3, 1) := by decide +kernel
theorem dX11_hears_20 : decode cX11_hears 20 = .ok (.iadd, 1) := by decide +kernel
theorem dX11_hears_21 : decode cX11_hears 21 = .ok (.iaload, 1) := by decide +kernel
theorem dX11_hears_22 : decode cX11_hears 22 = .ok (.iload_n 1, 1) := by decide +kernel
theorem dX11_hears_23 : decode cX11_hears 23 = .ok (.if_icmp .lt 9, 3) := by decide +kernel
theorem dX11_hears_26 : decode cX11_hears 26 = .ok (.iconst 1, 1) := by decide +kernel
theorem dX11_hears_27 : decode cX11_hears 27 = .ok (.iload_n 3, 1) := by decide +kernel
theorem dX11_hears_28 : decode cX11_hears 28 = .ok (.ishl, 1) := by decide +kernel
theorem dX11_hears_29 : decode cX11_hears 29 = .ok (.goto 4, 3) := by decide +kernel
theorem dX11_hears_32 : decode cX11_hears 32 = .ok (.iconst 0, 1) := by decide +kernel
theorem dX11_hears_33 : decode cX11_hears 33 = .ok (.ior, 1) := by decide +kernel
theorem dX11_hears_34 : decode cX11_hears 34 = .ok (.istore_n 2, 1) := by decide +kernel
theorem dX11_hears_35 : decode cX11_hears 35 = .ok (.iinc 3 1, 3) := by decide +kernel
theorem dX11_hears_38 : decode cX11_hears 38 = .ok (.goto (-34), 3) := by decide +kernel
theorem dX11_hears_41 : decode cX11_hears 41 = .ok (.iload_n 2, 1) := by decide +kernel
theorem dX11_hears_42 : decode cX11_hears 42 = .ok (.ireturn, 1) := by decide +kernel
theorem bX11_hears_0 {κ : gK} {M : MM} {Q : Int32 → MM → Prop} (l1 : Int32)
    (h : G κ mX11_hears 4 [.ref 119, .int l1, .int (0 : Int32), .int (0 : Int32)] [] M Q) :
    G κ mX11_hears 0 [.ref 119, .int l1, .null, .null] [] M Q := by
  refine g_iconst (v := (0 : Int32)) dX11_hears_0 (by decide) ?_
  refine g_istore_n (i := 2) (L' := [.ref 119, .int l1, .int (0 : Int32), .null]) dX11_hears_1 rfl (Nat.le_of_ble_eq_true rfl) rfl rfl ?_
  refine g_iconst (v := (0 : Int32)) dX11_hears_2 (by decide) ?_
  refine g_istore_n (i := 3) (L' := [.ref 119, .int l1, .int (0 : Int32), .int (0 : Int32)]) dX11_hears_3 rfl (Nat.le_of_ble_eq_true rfl) rfl rfl ?_
  exact h
theorem bX11_hears_4 {κ : gK} {M : MM} {Q : Int32 → MM → Prop} (l1 : Int32) (l2 : Int32) (l3 : Int32)
    (h : (((M 119 2) ≤ l3 → Q l2 M) ∧ (¬ (M 119 2) ≤ l3 → (vp_in ((10 : Int32) + l3) 26) ∧ ((((M 122 (((10 : Int32) + l3)).toNatClampNeg) < l1 → G κ mX11_hears 33 [.ref 119, .int l1, .null, .int l3] [.int (0 : Int32), .int l2] M Q) ∧ (¬ (M 122 (((10 : Int32) + l3)).toNatClampNeg) < l1 → G κ mX11_hears 33 [.ref 119, .int l1, .null, .int l3] [.int (jshl (1 : Int32) l3), .int l2] M Q)))))) :
    G κ mX11_hears 4 [.ref 119, .int l1, .int l2, .int l3] [] M Q := by
  refine g_iload_n (i := 3) dX11_hears_4 rfl rfl ?_
  refine g_aload_n (i := 0) dX11_hears_5 rfl rfl ?_
  refine gf_RX11_60 rfl dX11_hears_6 sh_119 ?_
  refine g_icmp_ge (tgt := 41) dX11_hears_9 rfl ⟨fun hc => ?_, fun hc => ?_⟩
  · replace h := h.1 hc
    refine g_iload_n (i := 2) dX11_hears_41 rfl rfl ?_
    exact g_iret dX11_hears_42 rfl h
  · replace h := h.2 hc
    refine g_iload_n (i := 2) dX11_hears_12 rfl rfl ?_
    refine g_aload_n (i := 0) dX11_hears_13 rfl rfl ?_
    refine gf_RX11_16 rfl dX11_hears_14 sh_119 ?_
    refine g_bipush (v := (10 : Int32)) dX11_hears_17 (by decide) ?_
    refine g_iload_n (i := 3) dX11_hears_19 rfl rfl ?_
    refine g_iadd dX11_hears_20 ?_
    have hv1 := h.1; replace h := h.2
    refine g_iald dX11_hears_21 sh_122 hv1 ?_
    refine g_iload_n (i := 1) dX11_hears_22 rfl rfl ?_
    refine g_icmp_lt (tgt := 32) dX11_hears_23 rfl ⟨fun hc => ?_, fun hc => ?_⟩
    · replace h := h.1 hc
      refine g_iconst (v := (0 : Int32)) dX11_hears_32 (by decide) ?_
      exact g_sub _ (sub_c (Or.inr rfl) (sub_c (Or.inr rfl) (sub_c (Or.inl rfl) (sub_c (Or.inr rfl) sub_n)))) h
    · replace h := h.2 hc
      refine g_iconst (v := (1 : Int32)) dX11_hears_26 (by decide) ?_
      refine g_iload_n (i := 3) dX11_hears_27 rfl rfl ?_
      refine g_ishl dX11_hears_28 ?_
      refine g_goto (tgt := 33) dX11_hears_29 rfl ?_
      exact g_sub _ (sub_c (Or.inr rfl) (sub_c (Or.inr rfl) (sub_c (Or.inl rfl) (sub_c (Or.inr rfl) sub_n)))) h
theorem bX11_hears_33 {κ : gK} {M : MM} {Q : Int32 → MM → Prop} (l1 : Int32) (l3 : Int32) (s0 : Int32) (s1 : Int32)
    (h : G κ mX11_hears 4 [.ref 119, .int l1, .int (s1 ||| s0), .int (l3 + 1)] [] M Q) :
    G κ mX11_hears 33 [.ref 119, .int l1, .null, .int l3] [.int s0, .int s1] M Q := by
  refine g_ior dX11_hears_33 ?_
  refine g_istore_n (i := 2) (L' := [.ref 119, .int l1, .int (s1 ||| s0), .int l3]) dX11_hears_34 rfl (Nat.le_of_ble_eq_true rfl) rfl rfl ?_
  refine g_iinc (v := (l3 + 1)) (L' := [.ref 119, .int l1, .int (s1 ||| s0), .int (l3 + 1)]) dX11_hears_35 rfl rfl (Nat.le_of_ble_eq_true rfl) rfl rfl ?_
  refine g_goto (tgt := 4) dX11_hears_38 rfl ?_
  exact h
theorem eX11_hears {κ : gK} {M : MM} {Q : Int32 → MM → Prop} (l1 : Int32)
    (h : G κ mX11_hears 0 [.ref 119, .int l1, .null, .null] [] M Q) : Cl κ mX11_hears [.ref 119, .int l1] M Q := g_entry 2 pl_X11_hears (Nat.le_of_ble_eq_true rfl) (L := [.ref 119, .int l1, .null, .null]) rfl (g_sub _ (sub_c (Or.inr rfl) (sub_c (Or.inr rfl) (sub_c (Or.inr rfl) (sub_c (Or.inr rfl) sub_n)))) h)
theorem dX11_sounds_0 : decode cX11_sounds 0 = .ok (.aload_n 0, 1) := by decide +kernel
theorem dX11_sounds_1 : decode cX11_sounds 1 = .ok (.iload_n 1, 1) := by decide +kernel
theorem dX11_sounds_2 : decode cX11_sounds 2 = .ok (.invokevirtual 81, 3) := by decide +kernel
theorem dX11_sounds_5 : decode cX11_sounds 5 = .ok (.istore_n 2, 1) := by decide +kernel
theorem dX11_sounds_6 : decode cX11_sounds 6 = .ok (.iconst 0, 1) := by decide +kernel
theorem dX11_sounds_7 : decode cX11_sounds 7 = .ok (.istore_n 3, 1) := by decide +kernel
theorem dX11_sounds_8 : decode cX11_sounds 8 = .ok (.iload_n 3, 1) := by decide +kernel
theorem dX11_sounds_9 : decode cX11_sounds 9 = .ok (.aload_n 0, 1) := by decide +kernel
theorem dX11_sounds_10 : decode cX11_sounds 10 = .ok (.getfield 60, 3) := by decide +kernel
theorem dX11_sounds_13 : decode cX11_sounds 13 = .ok (.if_icmp .ge 78, 3) := by decide +kernel
theorem dX11_sounds_16 : decode cX11_sounds 16 = .ok (.iload_n 2, 1) := by decide +kernel
theorem dX11_sounds_17 : decode cX11_sounds 17 = .ok (.iload_n 3, 1) := by decide +kernel
theorem dX11_sounds_18 : decode cX11_sounds 18 = .ok (.ishr, 1) := by decide +kernel
theorem dX11_sounds_19 : decode cX11_sounds 19 = .ok (.iconst 1, 1) := by decide +kernel
theorem dX11_sounds_20 : decode cX11_sounds 20 = .ok (.iand, 1) := by decide +kernel
theorem dX11_sounds_21 : decode cX11_sounds 21 = .ok (.iconst 1, 1) := by decide +kernel
theorem dX11_sounds_22 : decode cX11_sounds 22 = .ok (.if_icmp .ne 63, 3) := by decide +kernel
theorem dX11_sounds_25 : decode cX11_sounds 25 = .ok (.aload_n 0, 1) := by decide +kernel
theorem dX11_sounds_26 : decode cX11_sounds 26 = .ok (.getfield 16, 3) := by decide +kernel
theorem dX11_sounds_29 : decode cX11_sounds 29 = .ok (.iconst 2, 1) := by decide +kernel
theorem dX11_sounds_30 : decode cX11_sounds 30 = .ok (.iload_n 3, 1) := by decide +kernel
theorem dX11_sounds_31 : decode cX11_sounds 31 = .ok (.iadd, 1) := by decide +kernel
theorem dX11_sounds_32 : decode cX11_sounds 32 = .ok (.aload_n 0, 1) := by decide +kernel
theorem dX11_sounds_33 : decode cX11_sounds 33 = .ok (.aload_n 0, 1) := by decide +kernel
theorem dX11_sounds_34 : decode cX11_sounds 34 = .ok (.getfield 7, 3) := by decide +kernel
theorem dX11_sounds_37 : decode cX11_sounds 37 = .ok (.iload_n 3, 1) := by decide +kernel
theorem dX11_sounds_38 : decode cX11_sounds 38 = .ok (.iaload, 1) := by decide +kernel
theorem dX11_sounds_39 : decode cX11_sounds 39 = .ok (.aload_n 0, 1) := by decide +kernel
theorem dX11_sounds_40 : decode cX11_sounds 40 = .ok (.iload_n 3, 1) := by decide +kernel
theorem dX11_sounds_41 : decode cX11_sounds 41 = .ok (.invokevirtual 70, 3) := by decide +kernel
theorem dX11_sounds_44 : decode cX11_sounds 44 = .ok (.aload_n 0, 1) := by decide +kernel
theorem dX11_sounds_45 : decode cX11_sounds 45 = .ok (.getfield 16, 3) := by decide +kernel
theorem dX11_sounds_48 : decode cX11_sounds 48 = .ok (.iconst 0, 1) := by decide +kernel
theorem dX11_sounds_49 : decode cX11_sounds 49 = .ok (.iaload, 1) := by decide +kernel
theorem dX11_sounds_50 : decode cX11_sounds 50 = .ok (.invokevirtual 84, 3) := by decide +kernel
theorem dX11_sounds_53 : decode cX11_sounds 53 = .ok (.iastore, 1) := by decide +kernel
theorem dX11_sounds_54 : decode cX11_sounds 54 = .ok (.aload_n 0, 1) := by decide +kernel
theorem dX11_sounds_55 : decode cX11_sounds 55 = .ok (.getfield 16, 3) := by decide +kernel
theorem dX11_sounds_58 : decode cX11_sounds 58 = .ok (.bipush 18, 2) := by decide +kernel
theorem dX11_sounds_60 : decode cX11_sounds 60 = .ok (.iload_n 3, 1) := by decide +kernel
theorem dX11_sounds_61 : decode cX11_sounds 61 = .ok (.iadd, 1) := by decide +kernel
theorem dX11_sounds_62 : decode cX11_sounds 62 = .ok (.dup2, 1) := by decide +kernel
theorem dX11_sounds_63 : decode cX11_sounds 63 = .ok (.iaload, 1) := by decide +kernel
theorem dX11_sounds_64 : decode cX11_sounds 64 = .ok (.aload_n 0, 1) := by decide +kernel
theorem dX11_sounds_65 : decode cX11_sounds 65 = .ok (.getfield 16, 3) := by decide +kernel
theorem dX11_sounds_68 : decode cX11_sounds 68 = .ok (.bipush 18, 2) := by decide +kernel
theorem dX11_sounds_70 : decode cX11_sounds 70 = .ok (.iload_n 3, 1) := by decide +kernel
theorem dX11_sounds_71 : decode cX11_sounds 71 = .ok (.iadd, 1) := by decide +kernel
theorem dX11_sounds_72 : decode cX11_sounds 72 = .ok (.iaload, 1) := by decide +kernel
theorem dX11_sounds_73 : decode cX11_sounds 73 = .ok (.ldc 88, 2) := by decide +kernel
theorem dX11_sounds_75 : decode cX11_sounds 75 = .ok (.if_icmp .ge 7, 3) := by decide +kernel
theorem dX11_sounds_78 : decode cX11_sounds 78 = .ok (.iconst 1, 1) := by decide +kernel
theorem dX11_sounds_79 : decode cX11_sounds 79 = .ok (.goto 4, 3) := by decide +kernel
theorem dX11_sounds_82 : decode cX11_sounds 82 = .ok (.iconst 0, 1) := by decide +kernel
theorem dX11_sounds_83 : decode cX11_sounds 83 = .ok (.iadd, 1) := by decide +kernel
theorem dX11_sounds_84 : decode cX11_sounds 84 = .ok (.iastore, 1) := by decide +kernel
theorem dX11_sounds_85 : decode cX11_sounds 85 = .ok (.iinc 3 1, 3) := by decide +kernel
theorem dX11_sounds_88 : decode cX11_sounds 88 = .ok (.goto (-80), 3) := by decide +kernel
theorem dX11_sounds_91 : decode cX11_sounds 91 = .ok (.return_, 1) := by decide +kernel
theorem bX11_sounds_0 {κ : gK} {M : MM} {Q : Int32 → MM → Prop} (l1 : Int32)
    (h : Cl κ mX11_hears [.ref 119, .int l1] M (fun r1 M1 => G κ mX11_sounds 8 [.ref 119, .null, .int r1, .int (0 : Int32)] [] M1 Q)) :
    G κ mX11_sounds 0 [.ref 119, .int l1, .null, .null] [] M Q := by
  refine g_aload_n (i := 0) dX11_sounds_0 rfl rfl ?_
  refine g_iload_n (i := 1) dX11_sounds_1 rfl rfl ?_
  refine gc_RX11_81 rfl (Nat.le_of_ble_eq_true rfl) dX11_sounds_2 sh_119 (Nat.le_of_ble_eq_true rfl) ?_
  refine Cl.mono h (fun r1 M1 h => ?_)
  refine g_istore_n (i := 2) (L' := [.ref 119, .int l1, .int r1, .null]) dX11_sounds_5 rfl (Nat.le_of_ble_eq_true rfl) rfl rfl ?_
  refine g_iconst (v := (0 : Int32)) dX11_sounds_6 (by decide) ?_
  refine g_istore_n (i := 3) (L' := [.ref 119, .int l1, .int r1, .int (0 : Int32)]) dX11_sounds_7 rfl (Nat.le_of_ble_eq_true rfl) rfl rfl ?_
  exact g_sub _ (sub_c (Or.inr rfl) (sub_c (Or.inl rfl) (sub_c (Or.inr rfl) (sub_c (Or.inr rfl) sub_n)))) h
theorem bX11_sounds_8 {κ : gK} {M : MM} {Q : Int32 → MM → Prop} (l2 : Int32) (l3 : Int32)
    (h : (((M 119 2) ≤ l3 → Q 0 M) ∧ (¬ (M 119 2) ≤ l3 → ((((jshr l2 l3) &&& (1 : Int32)) = (1 : Int32) → (vp_in l3 8) ∧ (Cl κ mX11_layersOf [.ref 119, .int l3] M (fun r1 M1 => Cl κ mX11_crowed [.ref 119, .int (M 120 (l3).toNatClampNeg), .int r1, .int (M1 122 0)] M1 (fun r2 M2 => (vp_in ((2 : Int32) + l3) 26) ∧ (∀ M3 : MM, M3 = (pt M2 122 (((2 : Int32) + l3)).toNatClampNeg r2) → ((vp_in ((18 : Int32) + l3) 26) ∧ ((((999999 : Int32) ≤ (M3 122 (((18 : Int32) + l3)).toNatClampNeg) → G κ mX11_sounds 83 [.ref 119, .null, .int l2, .int l3] [.int (0 : Int32), .int (M3 122 (((18 : Int32) + l3)).toNatClampNeg), .int ((18 : Int32) + l3), .ref 122] M3 Q) ∧ (¬ (999999 : Int32) ≤ (M3 122 (((18 : Int32) + l3)).toNatClampNeg) → G κ mX11_sounds 83 [.ref 119, .null, .int l2, .int l3] [.int (1 : Int32), .int (M3 122 (((18 : Int32) + l3)).toNatClampNeg), .int ((18 : Int32) + l3), .ref 122] M3 Q))))))))) ∧ (¬ ((jshr l2 l3) &&& (1 : Int32)) = (1 : Int32) → G κ mX11_sounds 85 [.ref 119, .null, .int l2, .int l3] [] M Q))))) :
    G κ mX11_sounds 8 [.ref 119, .null, .int l2, .int l3] [] M Q := by
  refine g_iload_n (i := 3) dX11_sounds_8 rfl rfl ?_
  refine g_aload_n (i := 0) dX11_sounds_9 rfl rfl ?_
  refine gf_RX11_60 rfl dX11_sounds_10 sh_119 ?_
  refine g_icmp_ge (tgt := 91) dX11_sounds_13 rfl ⟨fun hc => ?_, fun hc => ?_⟩
  · replace h := h.1 hc
    exact g_vret dX11_sounds_91 rfl h
  · replace h := h.2 hc
    refine g_iload_n (i := 2) dX11_sounds_16 rfl rfl ?_
    refine g_iload_n (i := 3) dX11_sounds_17 rfl rfl ?_
    refine g_ishr dX11_sounds_18 ?_
    refine g_iconst (v := (1 : Int32)) dX11_sounds_19 (by decide) ?_
    refine g_iand dX11_sounds_20 ?_
    refine g_iconst (v := (1 : Int32)) dX11_sounds_21 (by decide) ?_
    refine g_icmp_ne (tgt := 85) dX11_sounds_22 rfl ⟨fun hc => ?_, fun hc => ?_⟩
    · replace h := h.1 hc
      refine g_aload_n (i := 0) dX11_sounds_25 rfl rfl ?_
      refine gf_RX11_16 rfl dX11_sounds_26 sh_119 ?_
      refine g_iconst (v := (2 : Int32)) dX11_sounds_29 (by decide) ?_
      refine g_iload_n (i := 3) dX11_sounds_30 rfl rfl ?_
      refine g_iadd dX11_sounds_31 ?_
      refine g_aload_n (i := 0) dX11_sounds_32 rfl rfl ?_
      refine g_aload_n (i := 0) dX11_sounds_33 rfl rfl ?_
      refine gf_RX11_7 rfl dX11_sounds_34 sh_119 ?_
      refine g_iload_n (i := 3) dX11_sounds_37 rfl rfl ?_
      have hv1 := h.1; replace h := h.2
      refine g_iald dX11_sounds_38 sh_120 hv1 ?_
      refine g_aload_n (i := 0) dX11_sounds_39 rfl rfl ?_
      refine g_iload_n (i := 3) dX11_sounds_40 rfl rfl ?_
      refine gc_RX11_70 rfl (Nat.le_of_ble_eq_true rfl) dX11_sounds_41 sh_119 (Nat.le_of_ble_eq_true rfl) ?_
      refine Cl.mono h (fun r1 M1 h => ?_)
      refine g_aload_n (i := 0) dX11_sounds_44 rfl rfl ?_
      refine gf_RX11_16 rfl dX11_sounds_45 sh_119 ?_
      refine g_iconst (v := (0 : Int32)) dX11_sounds_48 (by decide) ?_
      refine g_iald dX11_sounds_49 sh_122 (by unfold vp_in; decide) ?_
      refine gc_RX11_84 rfl (Nat.le_of_ble_eq_true rfl) dX11_sounds_50 sh_119 (Nat.le_of_ble_eq_true rfl) ?_
      refine Cl.mono h (fun r2 M2 h => ?_)
      have hv2 := h.1; replace h := h.2
      refine g_iastP dX11_sounds_53 sh_122 hv2 ?_
      refine g_nmM (fun M3 hM3 => ?_); replace h := h M3 hM3
      refine g_aload_n (i := 0) dX11_sounds_54 rfl rfl ?_
      refine gf_RX11_16 rfl dX11_sounds_55 sh_119 ?_
      refine g_bipush (v := (18 : Int32)) dX11_sounds_58 (by decide) ?_
      refine g_iload_n (i := 3) dX11_sounds_60 rfl rfl ?_
      refine g_iadd dX11_sounds_61 ?_
      refine g_dup2 dX11_sounds_62 rfl rfl ?_
      have hv3 := h.1; replace h := h.2
      refine g_iald dX11_sounds_63 sh_122 hv3 ?_
      refine g_aload_n (i := 0) dX11_sounds_64 rfl rfl ?_
      refine gf_RX11_16 rfl dX11_sounds_65 sh_119 ?_
      refine g_bipush (v := (18 : Int32)) dX11_sounds_68 (by decide) ?_
      refine g_iload_n (i := 3) dX11_sounds_70 rfl rfl ?_
      refine g_iadd dX11_sounds_71 ?_
      refine g_iald dX11_sounds_72 sh_122 hv3 ?_
      refine g_ldc dX11_sounds_73 wt_1023 ?_
      refine g_icmp_ge (tgt := 82) dX11_sounds_75 rfl ⟨fun hc => ?_, fun hc => ?_⟩
      · replace h := h.1 hc
        refine g_iconst (v := (0 : Int32)) dX11_sounds_82 (by decide) ?_
        exact h
      · replace h := h.2 hc
        refine g_iconst (v := (1 : Int32)) dX11_sounds_78 (by decide) ?_
        refine g_goto (tgt := 83) dX11_sounds_79 rfl ?_
        exact h
    · replace h := h.2 hc
      exact h
theorem bX11_sounds_83 {κ : gK} {M : MM} {Q : Int32 → MM → Prop} (l2 : Int32) (l3 : Int32) (s0 : Int32) (s1 : Int32) (s2 : Int32)
    (h : (vp_in s2 26) ∧ (∀ M1 : MM, M1 = (pt M 122 (s2).toNatClampNeg (s1 + s0)) → (G κ mX11_sounds 85 [.ref 119, .null, .int l2, .int l3] [] M1 Q))) :
    G κ mX11_sounds 83 [.ref 119, .null, .int l2, .int l3] [.int s0, .int s1, .int s2, .ref 122] M Q := by
  refine g_iadd dX11_sounds_83 ?_
  have hv1 := h.1; replace h := h.2
  refine g_iastP dX11_sounds_84 sh_122 hv1 ?_
  refine g_nmM (fun M1 hM1 => ?_); replace h := h M1 hM1
  exact h
theorem bX11_sounds_85 {κ : gK} {M : MM} {Q : Int32 → MM → Prop} (l2 : Int32) (l3 : Int32)
    (h : G κ mX11_sounds 8 [.ref 119, .null, .int l2, .int (l3 + 1)] [] M Q) :
    G κ mX11_sounds 85 [.ref 119, .null, .int l2, .int l3] [] M Q := by
  refine g_iinc (v := (l3 + 1)) (L' := [.ref 119, .null, .int l2, .int (l3 + 1)]) dX11_sounds_85 rfl rfl (Nat.le_of_ble_eq_true rfl) rfl rfl ?_
  refine g_goto (tgt := 8) dX11_sounds_88 rfl ?_
  exact h
theorem eX11_sounds {κ : gK} {M : MM} {Q : Int32 → MM → Prop} (l1 : Int32)
    (h : G κ mX11_sounds 0 [.ref 119, .int l1, .null, .null] [] M Q) : Cl κ mX11_sounds [.ref 119, .int l1] M Q := g_entry 2 pl_X11_sounds (Nat.le_of_ble_eq_true rfl) (L := [.ref 119, .int l1, .null, .null]) rfl (g_sub _ (sub_c (Or.inr rfl) (sub_c (Or.inr rfl) (sub_c (Or.inr rfl) (sub_c (Or.inr rfl) sub_n)))) h)
theorem dX11_goesOn_0 : decode cX11_goesOn 0 = .ok (.iconst 0, 1) := by decide +kernel
theorem dX11_goesOn_1 : decode cX11_goesOn 1 = .ok (.istore_n 2, 1) := by decide +kernel
theorem dX11_goesOn_2 : decode cX11_goesOn 2 = .ok (.iload_n 2, 1) := by decide +kernel
theorem dX11_goesOn_3 : decode cX11_goesOn 3 = .ok (.iload_n 1, 1) := by decide +kernel
theorem dX11_goesOn_4 : decode cX11_goesOn 4 = .ok (.if_icmp .ge 33, 3) := by decide +kernel
theorem dX11_goesOn_7 : decode cX11_goesOn 7 = .ok (.aload_n 0, 1) := by decide +kernel
theorem dX11_goesOn_8 : decode cX11_goesOn 8 = .ok (.aload_n 0, 1) := by decide +kernel
theorem dX11_goesOn_9 : decode cX11_goesOn 9 = .ok (.aload_n 0, 1) := by decide +kernel
theorem dX11_goesOn_10 : decode cX11_goesOn 10 = .ok (.getfield 16, 3) := by decide +kernel
theorem dX11_goesOn_13 : decode cX11_goesOn 13 = .ok (.iconst 0, 1) := by decide +kernel
theorem dX11_goesOn_14 : decode cX11_goesOn 14 = .ok (.iaload, 1) := by decide +kernel
theorem dX11_goesOn_15 : decode cX11_goesOn 15 = .ok (.invokevirtual 89, 3) := by decide +kernel
theorem dX11_goesOn_18 : decode cX11_goesOn 18 = .ok (.invokevirtual 92, 3) := by decide +kernel
theorem dX11_goesOn_21 : decode cX11_goesOn 21 = .ok (.aload_n 0, 1) := by decide +kernel
theorem dX11_goesOn_22 : decode cX11_goesOn 22 = .ok (.getfield 16, 3) := by decide +kernel
theorem dX11_goesOn_25 : decode cX11_goesOn 25 = .ok (.iconst 0, 1) := by decide +kernel
theorem dX11_goesOn_26 : decode cX11_goesOn 26 = .ok (.dup2, 1) := by decide +kernel
theorem dX11_goesOn_27 : decode cX11_goesOn 27 = .ok (.iaload, 1) := by decide +kernel
theorem dX11_goesOn_28 : decode cX11_goesOn 28 = .ok (.iconst 1, 1) := by decide +kernel
theorem dX11_goesOn_29 : decode cX11_goesOn 29 = .ok (.iadd, 1) := by decide +kernel
theorem dX11_goesOn_30 : decode cX11_goesOn 30 = .ok (.iastore, 1) := by decide +kernel
theorem dX11_goesOn_31 : decode cX11_goesOn 31 = .ok (.iinc 2 1, 3) := by decide +kernel
theorem dX11_goesOn_34 : decode cX11_goesOn 34 = .ok (.goto (-32), 3) := by decide +kernel
theorem dX11_goesOn_37 : decode cX11_goesOn 37 = .ok (.return_, 1) := by decide +kernel
theorem bX11_goesOn_0 {κ : gK} {M : MM} {Q : Int32 → MM → Prop} (l1 : Int32)
    (h : G κ mX11_goesOn 2 [.ref 119, .int l1, .int (0 : Int32)] [] M Q) :
    G κ mX11_goesOn 0 [.ref 119, .int l1, .null] [] M Q := by
  refine g_iconst (v := (0 : Int32)) dX11_goesOn_0 (by decide) ?_
  refine g_istore_n (i := 2) (L' := [.ref 119, .int l1, .int (0 : Int32)]) dX11_goesOn_1 rfl (Nat.le_of_ble_eq_true rfl) rfl rfl ?_
  exact h
theorem bX11_goesOn_2 {κ : gK} {M : MM} {Q : Int32 → MM → Prop} (l1 : Int32) (l2 : Int32)
    (h : ((l1 ≤ l2 → Q 0 M) ∧ (¬ l1 ≤ l2 → Cl κ mX11_lightOf [.ref 119, .int (M 122 0)] M (fun r1 M1 => Cl κ mX11_sounds [.ref 119, .int r1] M1 (fun _ M2 => ∀ M3 : MM, M3 = (pt M2 122 0 ((M2 122 0) + (1 : Int32))) → (G κ mX11_goesOn 2 [.ref 119, .int l1, .int (l2 + 1)] [] M3 Q)))))) :
    G κ mX11_goesOn 2 [.ref 119, .int l1, .int l2] [] M Q := by
  refine g_iload_n (i := 2) dX11_goesOn_2 rfl rfl ?_
  refine g_iload_n (i := 1) dX11_goesOn_3 rfl rfl ?_
  refine g_icmp_ge (tgt := 37) dX11_goesOn_4 rfl ⟨fun hc => ?_, fun hc => ?_⟩
  · replace h := h.1 hc
    exact g_vret dX11_goesOn_37 rfl h
  · replace h := h.2 hc
    refine g_aload_n (i := 0) dX11_goesOn_7 rfl rfl ?_
    refine g_aload_n (i := 0) dX11_goesOn_8 rfl rfl ?_
    refine g_aload_n (i := 0) dX11_goesOn_9 rfl rfl ?_
    refine gf_RX11_16 rfl dX11_goesOn_10 sh_119 ?_
    refine g_iconst (v := (0 : Int32)) dX11_goesOn_13 (by decide) ?_
    refine g_iald dX11_goesOn_14 sh_122 (by unfold vp_in; decide) ?_
    refine gc_RX11_89 rfl (Nat.le_of_ble_eq_true rfl) dX11_goesOn_15 sh_119 (Nat.le_of_ble_eq_true rfl) ?_
    refine Cl.mono h (fun r1 M1 h => ?_)
    refine gc_RX11_92 rfl (Nat.le_of_ble_eq_true rfl) dX11_goesOn_18 sh_119 (Nat.le_of_ble_eq_true rfl) ?_
    refine Cl.mono h (fun r2 M2 h => ?_)
    refine g_aload_n (i := 0) dX11_goesOn_21 rfl rfl ?_
    refine gf_RX11_16 rfl dX11_goesOn_22 sh_119 ?_
    refine g_iconst (v := (0 : Int32)) dX11_goesOn_25 (by decide) ?_
    refine g_dup2 dX11_goesOn_26 rfl rfl ?_
    refine g_iald dX11_goesOn_27 sh_122 (by unfold vp_in; decide) ?_
    refine g_iconst (v := (1 : Int32)) dX11_goesOn_28 (by decide) ?_
    refine g_iadd dX11_goesOn_29 ?_
    refine g_iastP dX11_goesOn_30 sh_122 (by unfold vp_in; decide) ?_
    refine g_nmM (fun M3 hM3 => ?_); replace h := h M3 hM3
    refine g_iinc (v := (l2 + 1)) (L' := [.ref 119, .int l1, .int (l2 + 1)]) dX11_goesOn_31 rfl rfl (Nat.le_of_ble_eq_true rfl) rfl rfl ?_
    refine g_goto (tgt := 2) dX11_goesOn_34 rfl ?_
    exact h
theorem eX11_goesOn {κ : gK} {M : MM} {Q : Int32 → MM → Prop} (l1 : Int32)
    (h : G κ mX11_goesOn 0 [.ref 119, .int l1, .null] [] M Q) : Cl κ mX11_goesOn [.ref 119, .int l1] M Q := g_entry 1 pl_X11_goesOn (Nat.le_of_ble_eq_true rfl) (L := [.ref 119, .int l1, .null]) rfl (g_sub _ (sub_c (Or.inr rfl) (sub_c (Or.inr rfl) (sub_c (Or.inr rfl) sub_n))) h)
theorem dX11_whoOn_0 : decode cX11_whoOn 0 = .ok (.iconst 0, 1) := by decide +kernel
theorem dX11_whoOn_1 : decode cX11_whoOn 1 = .ok (.istore_n 2, 1) := by decide +kernel
theorem dX11_whoOn_2 : decode cX11_whoOn 2 = .ok (.iconst 0, 1) := by decide +kernel
theorem dX11_whoOn_3 : decode cX11_whoOn 3 = .ok (.istore_n 3, 1) := by decide +kernel
theorem dX11_whoOn_4 : decode cX11_whoOn 4 = .ok (.iload_n 3, 1) := by decide +kernel
theorem dX11_whoOn_5 : decode cX11_whoOn 5 = .ok (.aload_n 0, 1) := by decide +kernel
theorem dX11_whoOn_6 : decode cX11_whoOn 6 = .ok (.getfield 60, 3) := by decide +kernel
theorem dX11_whoOn_9 : decode cX11_whoOn 9 = .ok (.if_icmp .ge 28, 3) := by decide +kernel
theorem dX11_whoOn_12 : decode cX11_whoOn 12 = .ok (.iload_n 2, 1) := by decide +kernel
theorem dX11_whoOn_13 : decode cX11_whoOn 13 = .ok (.aload_n 0, 1) := by decide +kernel
theorem dX11_whoOn_14 : decode cX11_whoOn 14 = .ok (.iload_n 3, 1) := by decide +kernel
theorem dX11_whoOn_15 : decode cX11_whoOn 15 = .ok (.iload_n 1, 1) := by decide +kernel
theorem dX11_whoOn_16 : decode cX11_whoOn 16 = .ok (.invokevirtual 96, 3) := by decide +kernel
theorem dX11_whoOn_19 : decode cX11_whoOn 19 = .ok (.ifCond .eq 9, 3) := by decide +kernel
theorem dX11_whoOn_22 : decode cX11_whoOn 22 = .ok (.iconst 1, 1) := by decide +kernel
theorem dX11_whoOn_23 : decode cX11_whoOn 23 = .ok (.iload_n 3, 1) := by decide +kernel
theorem dX11_whoOn_24 : decode cX11_whoOn 24 = .ok (.ishl, 1) := by decide +kernel
theorem dX11_whoOn_25 : decode cX11_whoOn 25 = .ok (.goto 4, 3) := by decide +kernel
theorem dX11_whoOn_28 : decode cX11_whoOn 28 = .ok (.iconst 0, 1) := by decide +kernel
theorem dX11_whoOn_29 : decode cX11_whoOn 29 = .ok (.ior, 1) := by decide +kernel
theorem dX11_whoOn_30 : decode cX11_whoOn 30 = .ok (.istore_n 2, 1) := by decide +kernel
theorem dX11_whoOn_31 : decode cX11_whoOn 31 = .ok (.iinc 3 1, 3) := by decide +kernel
theorem dX11_whoOn_34 : decode cX11_whoOn 34 = .ok (.goto (-30), 3) := by decide +kernel
theorem dX11_whoOn_37 : decode cX11_whoOn 37 = .ok (.iload_n 2, 1) := by decide +kernel
theorem dX11_whoOn_38 : decode cX11_whoOn 38 = .ok (.ireturn, 1) := by decide +kernel
theorem bX11_whoOn_0 {κ : gK} {M : MM} {Q : Int32 → MM → Prop} (l1 : Int32)
    (h : G κ mX11_whoOn 4 [.ref 119, .int l1, .int (0 : Int32), .int (0 : Int32)] [] M Q) :
    G κ mX11_whoOn 0 [.ref 119, .int l1, .null, .null] [] M Q := by
  refine g_iconst (v := (0 : Int32)) dX11_whoOn_0 (by decide) ?_
  refine g_istore_n (i := 2) (L' := [.ref 119, .int l1, .int (0 : Int32), .null]) dX11_whoOn_1 rfl (Nat.le_of_ble_eq_true rfl) rfl rfl ?_
  refine g_iconst (v := (0 : Int32)) dX11_whoOn_2 (by decide) ?_
  refine g_istore_n (i := 3) (L' := [.ref 119, .int l1, .int (0 : Int32), .int (0 : Int32)]) dX11_whoOn_3 rfl (Nat.le_of_ble_eq_true rfl) rfl rfl ?_
  exact h
theorem bX11_whoOn_4 {κ : gK} {M : MM} {Q : Int32 → MM → Prop} (l1 : Int32) (l2 : Int32) (l3 : Int32)
    (h : (((M 119 2) ≤ l3 → Q l2 M) ∧ (¬ (M 119 2) ≤ l3 → Cl κ mX11_isOn [.ref 119, .int l3, .int l1] M (fun r1 M1 => ((r1 = 0 → G κ mX11_whoOn 29 [.ref 119, .int l1, .null, .int l3] [.int (0 : Int32), .int l2] M1 Q) ∧ (¬ r1 = 0 → G κ mX11_whoOn 29 [.ref 119, .int l1, .null, .int l3] [.int (jshl (1 : Int32) l3), .int l2] M1 Q)))))) :
    G κ mX11_whoOn 4 [.ref 119, .int l1, .int l2, .int l3] [] M Q := by
  refine g_iload_n (i := 3) dX11_whoOn_4 rfl rfl ?_
  refine g_aload_n (i := 0) dX11_whoOn_5 rfl rfl ?_
  refine gf_RX11_60 rfl dX11_whoOn_6 sh_119 ?_
  refine g_icmp_ge (tgt := 37) dX11_whoOn_9 rfl ⟨fun hc => ?_, fun hc => ?_⟩
  · replace h := h.1 hc
    refine g_iload_n (i := 2) dX11_whoOn_37 rfl rfl ?_
    exact g_iret dX11_whoOn_38 rfl h
  · replace h := h.2 hc
    refine g_iload_n (i := 2) dX11_whoOn_12 rfl rfl ?_
    refine g_aload_n (i := 0) dX11_whoOn_13 rfl rfl ?_
    refine g_iload_n (i := 3) dX11_whoOn_14 rfl rfl ?_
    refine g_iload_n (i := 1) dX11_whoOn_15 rfl rfl ?_
    refine gc_RX11_96 rfl (Nat.le_of_ble_eq_true rfl) dX11_whoOn_16 sh_119 (Nat.le_of_ble_eq_true rfl) ?_
    refine Cl.mono h (fun r1 M1 h => ?_)
    refine g_if_eq (tgt := 28) dX11_whoOn_19 rfl ⟨fun hc => ?_, fun hc => ?_⟩
    · replace h := h.1 hc
      refine g_iconst (v := (0 : Int32)) dX11_whoOn_28 (by decide) ?_
      exact g_sub _ (sub_c (Or.inr rfl) (sub_c (Or.inr rfl) (sub_c (Or.inl rfl) (sub_c (Or.inr rfl) sub_n)))) h
    · replace h := h.2 hc
      refine g_iconst (v := (1 : Int32)) dX11_whoOn_22 (by decide) ?_
      refine g_iload_n (i := 3) dX11_whoOn_23 rfl rfl ?_
      refine g_ishl dX11_whoOn_24 ?_
      refine g_goto (tgt := 29) dX11_whoOn_25 rfl ?_
      exact g_sub _ (sub_c (Or.inr rfl) (sub_c (Or.inr rfl) (sub_c (Or.inl rfl) (sub_c (Or.inr rfl) sub_n)))) h
theorem bX11_whoOn_29 {κ : gK} {M : MM} {Q : Int32 → MM → Prop} (l1 : Int32) (l3 : Int32) (s0 : Int32) (s1 : Int32)
    (h : G κ mX11_whoOn 4 [.ref 119, .int l1, .int (s1 ||| s0), .int (l3 + 1)] [] M Q) :
    G κ mX11_whoOn 29 [.ref 119, .int l1, .null, .int l3] [.int s0, .int s1] M Q := by
  refine g_ior dX11_whoOn_29 ?_
  refine g_istore_n (i := 2) (L' := [.ref 119, .int l1, .int (s1 ||| s0), .int l3]) dX11_whoOn_30 rfl (Nat.le_of_ble_eq_true rfl) rfl rfl ?_
  refine g_iinc (v := (l3 + 1)) (L' := [.ref 119, .int l1, .int (s1 ||| s0), .int (l3 + 1)]) dX11_whoOn_31 rfl rfl (Nat.le_of_ble_eq_true rfl) rfl rfl ?_
  refine g_goto (tgt := 4) dX11_whoOn_34 rfl ?_
  exact h
theorem eX11_whoOn {κ : gK} {M : MM} {Q : Int32 → MM → Prop} (l1 : Int32)
    (h : G κ mX11_whoOn 0 [.ref 119, .int l1, .null, .null] [] M Q) : Cl κ mX11_whoOn [.ref 119, .int l1] M Q := g_entry 2 pl_X11_whoOn (Nat.le_of_ble_eq_true rfl) (L := [.ref 119, .int l1, .null, .null]) rfl (g_sub _ (sub_c (Or.inr rfl) (sub_c (Or.inr rfl) (sub_c (Or.inr rfl) (sub_c (Or.inr rfl) sub_n)))) h)
theorem dX11_anybody_0 : decode cX11_anybody 0 = .ok (.iconst 0, 1) := by decide +kernel
theorem dX11_anybody_1 : decode cX11_anybody 1 = .ok (.istore_n 1, 1) := by decide +kernel
theorem dX11_anybody_2 : decode cX11_anybody 2 = .ok (.iconst 0, 1) := by decide +kernel
theorem dX11_anybody_3 : decode cX11_anybody 3 = .ok (.istore_n 2, 1) := by decide +kernel
theorem dX11_anybody_4 : decode cX11_anybody 4 = .ok (.iload_n 2, 1) := by decide +kernel
theorem dX11_anybody_5 : decode cX11_anybody 5 = .ok (.aload_n 0, 1) := by decide +kernel
theorem dX11_anybody_6 : decode cX11_anybody 6 = .ok (.getfield 60, 3) := by decide +kernel
theorem dX11_anybody_9 : decode cX11_anybody 9 = .ok (.if_icmp .ge 17, 3) := by decide +kernel
theorem dX11_anybody_12 : decode cX11_anybody 12 = .ok (.iload_n 1, 1) := by decide +kernel
theorem dX11_anybody_13 : decode cX11_anybody 13 = .ok (.aload_n 0, 1) := by decide +kernel
theorem dX11_anybody_14 : decode cX11_anybody 14 = .ok (.iload_n 2, 1) := by decide +kernel
theorem dX11_anybody_15 : decode cX11_anybody 15 = .ok (.invokevirtual 70, 3) := by decide +kernel
theorem dX11_anybody_18 : decode cX11_anybody 18 = .ok (.ior, 1) := by decide +kernel
theorem dX11_anybody_19 : decode cX11_anybody 19 = .ok (.istore_n 1, 1) := by decide +kernel
theorem dX11_anybody_20 : decode cX11_anybody 20 = .ok (.iinc 2 1, 3) := by decide +kernel
theorem dX11_anybody_23 : decode cX11_anybody 23 = .ok (.goto (-19), 3) := by decide +kernel
theorem dX11_anybody_26 : decode cX11_anybody 26 = .ok (.iload_n 1, 1) := by decide +kernel
theorem dX11_anybody_27 : decode cX11_anybody 27 = .ok (.ireturn, 1) := by decide +kernel
theorem bX11_anybody_0 {κ : gK} {M : MM} {Q : Int32 → MM → Prop} 
    (h : G κ mX11_anybody 4 [.ref 119, .int (0 : Int32), .int (0 : Int32)] [] M Q) :
    G κ mX11_anybody 0 [.ref 119, .null, .null] [] M Q := by
  refine g_iconst (v := (0 : Int32)) dX11_anybody_0 (by decide) ?_
  refine g_istore_n (i := 1) (L' := [.ref 119, .int (0 : Int32), .null]) dX11_anybody_1 rfl (Nat.le_of_ble_eq_true rfl) rfl rfl ?_
  refine g_iconst (v := (0 : Int32)) dX11_anybody_2 (by decide) ?_
  refine g_istore_n (i := 2) (L' := [.ref 119, .int (0 : Int32), .int (0 : Int32)]) dX11_anybody_3 rfl (Nat.le_of_ble_eq_true rfl) rfl rfl ?_
  exact h
theorem bX11_anybody_4 {κ : gK} {M : MM} {Q : Int32 → MM → Prop} (l1 : Int32) (l2 : Int32)
    (h : (((M 119 2) ≤ l2 → Q l1 M) ∧ (¬ (M 119 2) ≤ l2 → Cl κ mX11_layersOf [.ref 119, .int l2] M (fun r1 M1 => G κ mX11_anybody 4 [.ref 119, .int (l1 ||| r1), .int (l2 + 1)] [] M1 Q)))) :
    G κ mX11_anybody 4 [.ref 119, .int l1, .int l2] [] M Q := by
  refine g_iload_n (i := 2) dX11_anybody_4 rfl rfl ?_
  refine g_aload_n (i := 0) dX11_anybody_5 rfl rfl ?_
  refine gf_RX11_60 rfl dX11_anybody_6 sh_119 ?_
  refine g_icmp_ge (tgt := 26) dX11_anybody_9 rfl ⟨fun hc => ?_, fun hc => ?_⟩
  · replace h := h.1 hc
    refine g_iload_n (i := 1) dX11_anybody_26 rfl rfl ?_
    exact g_iret dX11_anybody_27 rfl h
  · replace h := h.2 hc
    refine g_iload_n (i := 1) dX11_anybody_12 rfl rfl ?_
    refine g_aload_n (i := 0) dX11_anybody_13 rfl rfl ?_
    refine g_iload_n (i := 2) dX11_anybody_14 rfl rfl ?_
    refine gc_RX11_70 rfl (Nat.le_of_ble_eq_true rfl) dX11_anybody_15 sh_119 (Nat.le_of_ble_eq_true rfl) ?_
    refine Cl.mono h (fun r1 M1 h => ?_)
    refine g_ior dX11_anybody_18 ?_
    refine g_istore_n (i := 1) (L' := [.ref 119, .int (l1 ||| r1), .int l2]) dX11_anybody_19 rfl (Nat.le_of_ble_eq_true rfl) rfl rfl ?_
    refine g_iinc (v := (l2 + 1)) (L' := [.ref 119, .int (l1 ||| r1), .int (l2 + 1)]) dX11_anybody_20 rfl rfl (Nat.le_of_ble_eq_true rfl) rfl rfl ?_
    refine g_goto (tgt := 4) dX11_anybody_23 rfl ?_
    exact h
theorem eX11_anybody {κ : gK} {M : MM} {Q : Int32 → MM → Prop} 
    (h : G κ mX11_anybody 0 [.ref 119, .null, .null] [] M Q) : Cl κ mX11_anybody [.ref 119] M Q := g_entry 2 pl_X11_anybody (Nat.le_of_ble_eq_true rfl) (L := [.ref 119, .null, .null]) rfl (g_sub _ (sub_c (Or.inr rfl) (sub_c (Or.inr rfl) (sub_c (Or.inr rfl) sub_n))) h)
theorem dX11_meets_0 : decode cX11_meets 0 = .ok (.iconst 0, 1) := by decide +kernel
theorem dX11_meets_1 : decode cX11_meets 1 = .ok (.istore_n 2, 1) := by decide +kernel
theorem dX11_meets_2 : decode cX11_meets 2 = .ok (.iconst 0, 1) := by decide +kernel
theorem dX11_meets_3 : decode cX11_meets 3 = .ok (.istore_n 3, 1) := by decide +kernel
theorem dX11_meets_4 : decode cX11_meets 4 = .ok (.iload_n 3, 1) := by decide +kernel
theorem dX11_meets_5 : decode cX11_meets 5 = .ok (.aload_n 0, 1) := by decide +kernel
theorem dX11_meets_6 : decode cX11_meets 6 = .ok (.getfield 60, 3) := by decide +kernel
theorem dX11_meets_9 : decode cX11_meets 9 = .ok (.if_icmp .ge 38, 3) := by decide +kernel
theorem dX11_meets_12 : decode cX11_meets 12 = .ok (.iload_n 2, 1) := by decide +kernel
theorem dX11_meets_13 : decode cX11_meets 13 = .ok (.iload_n 3, 1) := by decide +kernel
theorem dX11_meets_14 : decode cX11_meets 14 = .ok (.iload_n 1, 1) := by decide +kernel
theorem dX11_meets_15 : decode cX11_meets 15 = .ok (.if_icmp .eq 23, 3) := by decide +kernel
theorem dX11_meets_18 : decode cX11_meets 18 = .ok (.aload_n 0, 1) := by decide +kernel
theorem dX11_meets_19 : decode cX11_meets 19 = .ok (.iload_n 1, 1) := by decide +kernel
theorem dX11_meets_20 : decode cX11_meets 20 = .ok (.invokevirtual 70, 3) := by decide +kernel
theorem dX11_meets_23 : decode cX11_meets 23 = .ok (.aload_n 0, 1) := by decide +kernel
theorem dX11_meets_24 : decode cX11_meets 24 = .ok (.iload_n 3, 1) := by decide +kernel
theorem dX11_meets_25 : decode cX11_meets 25 = .ok (.invokevirtual 70, 3) := by decide +kernel
theorem dX11_meets_28 : decode cX11_meets 28 = .ok (.iand, 1) := by decide +kernel
theorem dX11_meets_29 : decode cX11_meets 29 = .ok (.ifCond .eq 9, 3) := by decide +kernel
theorem dX11_meets_32 : decode cX11_meets 32 = .ok (.iconst 1, 1) := by decide +kernel
theorem dX11_meets_33 : decode cX11_meets 33 = .ok (.iload_n 3, 1) := by decide +kernel
theorem dX11_meets_34 : decode cX11_meets 34 = .ok (.ishl, 1) := by decide +kernel
theorem dX11_meets_35 : decode cX11_meets 35 = .ok (.goto 4, 3) := by decide +kernel
theorem dX11_meets_38 : decode cX11_meets 38 = .ok (.iconst 0, 1) := by decide +kernel
theorem dX11_meets_39 : decode cX11_meets 39 = .ok (.ior, 1) := by decide +kernel
theorem dX11_meets_40 : decode cX11_meets 40 = .ok (.istore_n 2, 1) := by decide +kernel
theorem dX11_meets_41 : decode cX11_meets 41 = .ok (.iinc 3 1, 3) := by decide +kernel
theorem dX11_meets_44 : decode cX11_meets 44 = .ok (.goto (-40), 3) := by decide +kernel
theorem dX11_meets_47 : decode cX11_meets 47 = .ok (.iload_n 2, 1) := by decide +kernel
theorem dX11_meets_48 : decode cX11_meets 48 = .ok (.ireturn, 1) := by decide +kernel
theorem bX11_meets_0 {κ : gK} {M : MM} {Q : Int32 → MM → Prop} (l1 : Int32)
    (h : G κ mX11_meets 4 [.ref 119, .int l1, .int (0 : Int32), .int (0 : Int32)] [] M Q) :
    G κ mX11_meets 0 [.ref 119, .int l1, .null, .null] [] M Q := by
  refine g_iconst (v := (0 : Int32)) dX11_meets_0 (by decide) ?_
  refine g_istore_n (i := 2) (L' := [.ref 119, .int l1, .int (0 : Int32), .null]) dX11_meets_1 rfl (Nat.le_of_ble_eq_true rfl) rfl rfl ?_
  refine g_iconst (v := (0 : Int32)) dX11_meets_2 (by decide) ?_
  refine g_istore_n (i := 3) (L' := [.ref 119, .int l1, .int (0 : Int32), .int (0 : Int32)]) dX11_meets_3 rfl (Nat.le_of_ble_eq_true rfl) rfl rfl ?_
  exact h
theorem bX11_meets_4 {κ : gK} {M : MM} {Q : Int32 → MM → Prop} (l1 : Int32) (l2 : Int32) (l3 : Int32)
    (h : (((M 119 2) ≤ l3 → Q l2 M) ∧ (¬ (M 119 2) ≤ l3 → ((l3 = l1 → G κ mX11_meets 38 [.ref 119, .int l1, .null, .int l3] [.int l2] M Q) ∧ (¬ l3 = l1 → Cl κ mX11_layersOf [.ref 119, .int l1] M (fun r1 M1 => Cl κ mX11_layersOf [.ref 119, .int l3] M1 (fun r2 M2 => (((r1 &&& r2) = 0 → G κ mX11_meets 38 [.ref 119, .int l1, .null, .int l3] [.int l2] M2 Q) ∧ (¬ (r1 &&& r2) = 0 → G κ mX11_meets 39 [.ref 119, .int l1, .null, .int l3] [.int (jshl (1 : Int32) l3), .int l2] M2 Q))))))))) :
    G κ mX11_meets 4 [.ref 119, .int l1, .int l2, .int l3] [] M Q := by
  refine g_iload_n (i := 3) dX11_meets_4 rfl rfl ?_
  refine g_aload_n (i := 0) dX11_meets_5 rfl rfl ?_
  refine gf_RX11_60 rfl dX11_meets_6 sh_119 ?_
  refine g_icmp_ge (tgt := 47) dX11_meets_9 rfl ⟨fun hc => ?_, fun hc => ?_⟩
  · replace h := h.1 hc
    refine g_iload_n (i := 2) dX11_meets_47 rfl rfl ?_
    exact g_iret dX11_meets_48 rfl h
  · replace h := h.2 hc
    refine g_iload_n (i := 2) dX11_meets_12 rfl rfl ?_
    refine g_iload_n (i := 3) dX11_meets_13 rfl rfl ?_
    refine g_iload_n (i := 1) dX11_meets_14 rfl rfl ?_
    refine g_icmp_eq (tgt := 38) dX11_meets_15 rfl ⟨fun hc => ?_, fun hc => ?_⟩
    · replace h := h.1 hc
      exact g_sub _ (sub_c (Or.inr rfl) (sub_c (Or.inr rfl) (sub_c (Or.inl rfl) (sub_c (Or.inr rfl) sub_n)))) h
    · replace h := h.2 hc
      refine g_aload_n (i := 0) dX11_meets_18 rfl rfl ?_
      refine g_iload_n (i := 1) dX11_meets_19 rfl rfl ?_
      refine gc_RX11_70 rfl (Nat.le_of_ble_eq_true rfl) dX11_meets_20 sh_119 (Nat.le_of_ble_eq_true rfl) ?_
      refine Cl.mono h (fun r1 M1 h => ?_)
      refine g_aload_n (i := 0) dX11_meets_23 rfl rfl ?_
      refine g_iload_n (i := 3) dX11_meets_24 rfl rfl ?_
      refine gc_RX11_70 rfl (Nat.le_of_ble_eq_true rfl) dX11_meets_25 sh_119 (Nat.le_of_ble_eq_true rfl) ?_
      refine Cl.mono h (fun r2 M2 h => ?_)
      refine g_iand dX11_meets_28 ?_
      refine g_if_eq (tgt := 38) dX11_meets_29 rfl ⟨fun hc => ?_, fun hc => ?_⟩
      · replace h := h.1 hc
        exact g_sub _ (sub_c (Or.inr rfl) (sub_c (Or.inr rfl) (sub_c (Or.inl rfl) (sub_c (Or.inr rfl) sub_n)))) h
      · replace h := h.2 hc
        refine g_iconst (v := (1 : Int32)) dX11_meets_32 (by decide) ?_
        refine g_iload_n (i := 3) dX11_meets_33 rfl rfl ?_
        refine g_ishl dX11_meets_34 ?_
        refine g_goto (tgt := 39) dX11_meets_35 rfl ?_
        exact g_sub _ (sub_c (Or.inr rfl) (sub_c (Or.inr rfl) (sub_c (Or.inl rfl) (sub_c (Or.inr rfl) sub_n)))) h
theorem bX11_meets_38 {κ : gK} {M : MM} {Q : Int32 → MM → Prop} (l1 : Int32) (l3 : Int32) (s0 : Int32)
    (h : G κ mX11_meets 39 [.ref 119, .int l1, .null, .int l3] [.int (0 : Int32), .int s0] M Q) :
    G κ mX11_meets 38 [.ref 119, .int l1, .null, .int l3] [.int s0] M Q := by
  refine g_iconst (v := (0 : Int32)) dX11_meets_38 (by decide) ?_
  exact h
theorem bX11_meets_39 {κ : gK} {M : MM} {Q : Int32 → MM → Prop} (l1 : Int32) (l3 : Int32) (s0 : Int32) (s1 : Int32)
    (h : G κ mX11_meets 4 [.ref 119, .int l1, .int (s1 ||| s0), .int (l3 + 1)] [] M Q) :
    G κ mX11_meets 39 [.ref 119, .int l1, .null, .int l3] [.int s0, .int s1] M Q := by
  refine g_ior dX11_meets_39 ?_
  refine g_istore_n (i := 2) (L' := [.ref 119, .int l1, .int (s1 ||| s0), .int l3]) dX11_meets_40 rfl (Nat.le_of_ble_eq_true rfl) rfl rfl ?_
  refine g_iinc (v := (l3 + 1)) (L' := [.ref 119, .int l1, .int (s1 ||| s0), .int (l3 + 1)]) dX11_meets_41 rfl rfl (Nat.le_of_ble_eq_true rfl) rfl rfl ?_
  refine g_goto (tgt := 4) dX11_meets_44 rfl ?_
  exact h
theorem eX11_meets {κ : gK} {M : MM} {Q : Int32 → MM → Prop} (l1 : Int32)
    (h : G κ mX11_meets 0 [.ref 119, .int l1, .null, .null] [] M Q) : Cl κ mX11_meets [.ref 119, .int l1] M Q := g_entry 2 pl_X11_meets (Nat.le_of_ble_eq_true rfl) (L := [.ref 119, .int l1, .null, .null]) rfl (g_sub _ (sub_c (Or.inr rfl) (sub_c (Or.inr rfl) (sub_c (Or.inr rfl) (sub_c (Or.inr rfl) sub_n)))) h)
theorem dX11_tornOnes_0 : decode cX11_tornOnes 0 = .ok (.iconst 0, 1) := by decide +kernel
theorem dX11_tornOnes_1 : decode cX11_tornOnes 1 = .ok (.istore_n 1, 1) := by decide +kernel
theorem dX11_tornOnes_2 : decode cX11_tornOnes 2 = .ok (.iconst 0, 1) := by decide +kernel
theorem dX11_tornOnes_3 : decode cX11_tornOnes 3 = .ok (.istore_n 2, 1) := by decide +kernel
theorem dX11_tornOnes_4 : decode cX11_tornOnes 4 = .ok (.iload_n 2, 1) := by decide +kernel
theorem dX11_tornOnes_5 : decode cX11_tornOnes 5 = .ok (.aload_n 0, 1) := by decide +kernel
theorem dX11_tornOnes_6 : decode cX11_tornOnes 6 = .ok (.getfield 60, 3) := by decide +kernel
theorem dX11_tornOnes_9 : decode cX11_tornOnes 9 = .ok (.if_icmp .ge 31, 3) := by decide +kernel
theorem dX11_tornOnes_12 : decode cX11_tornOnes 12 = .ok (.iload_n 1, 1) := by decide +kernel
theorem dX11_tornOnes_13 : decode cX11_tornOnes 13 = .ok (.aload_n 0, 1) := by decide +kernel
theorem dX11_tornOnes_14 : decode cX11_tornOnes 14 = .ok (.iload_n 2, 1) := by decide +kernel
theorem dX11_tornOnes_15 : decode cX11_tornOnes 15 = .ok (.invokevirtual 70, 3) := by decide +kernel
theorem dX11_tornOnes_18 : decode cX11_tornOnes 18 = .ok (.invokestatic 100, 3) := by decide +kernel
theorem dX11_tornOnes_21 : decode cX11_tornOnes 21 = .ok (.iconst 1, 1) := by decide +kernel
theorem dX11_tornOnes_22 : decode cX11_tornOnes 22 = .ok (.if_icmp .le 9, 3) := by decide +kernel
theorem dX11_tornOnes_25 : decode cX11_tornOnes 25 = .ok (.iconst 1, 1) := by decide +kernel
theorem dX11_tornOnes_26 : decode cX11_tornOnes 26 = .ok (.iload_n 2, 1) := by decide +kernel
theorem dX11_tornOnes_27 : decode cX11_tornOnes 27 = .ok (.ishl, 1) := by decide +kernel
theorem dX11_tornOnes_28 : decode cX11_tornOnes 28 = .ok (.goto 4, 3) := by decide +kernel
theorem dX11_tornOnes_31 : decode cX11_tornOnes 31 = .ok (.iconst 0, 1) := by decide +kernel
theorem dX11_tornOnes_32 : decode cX11_tornOnes 32 = .ok (.ior, 1) := by decide +kernel
theorem dX11_tornOnes_33 : decode cX11_tornOnes 33 = .ok (.istore_n 1, 1) := by decide +kernel
theorem dX11_tornOnes_34 : decode cX11_tornOnes 34 = .ok (.iinc 2 1, 3) := by decide +kernel
theorem dX11_tornOnes_37 : decode cX11_tornOnes 37 = .ok (.goto (-33), 3) := by decide +kernel
theorem dX11_tornOnes_40 : decode cX11_tornOnes 40 = .ok (.iload_n 1, 1) := by decide +kernel
theorem dX11_tornOnes_41 : decode cX11_tornOnes 41 = .ok (.ireturn, 1) := by decide +kernel
theorem bX11_tornOnes_0 {κ : gK} {M : MM} {Q : Int32 → MM → Prop} 
    (h : G κ mX11_tornOnes 4 [.ref 119, .int (0 : Int32), .int (0 : Int32)] [] M Q) :
    G κ mX11_tornOnes 0 [.ref 119, .null, .null] [] M Q := by
  refine g_iconst (v := (0 : Int32)) dX11_tornOnes_0 (by decide) ?_
  refine g_istore_n (i := 1) (L' := [.ref 119, .int (0 : Int32), .null]) dX11_tornOnes_1 rfl (Nat.le_of_ble_eq_true rfl) rfl rfl ?_
  refine g_iconst (v := (0 : Int32)) dX11_tornOnes_2 (by decide) ?_
  refine g_istore_n (i := 2) (L' := [.ref 119, .int (0 : Int32), .int (0 : Int32)]) dX11_tornOnes_3 rfl (Nat.le_of_ble_eq_true rfl) rfl rfl ?_
  exact h
theorem bX11_tornOnes_4 {κ : gK} {M : MM} {Q : Int32 → MM → Prop} (l1 : Int32) (l2 : Int32)
    (h : (((M 119 2) ≤ l2 → Q l1 M) ∧ (¬ (M 119 2) ≤ l2 → Cl κ mX11_layersOf [.ref 119, .int l2] M (fun r1 M1 => Cl κ mX11_many [.int r1] M1 (fun r2 M2 => ((r2 ≤ (1 : Int32) → G κ mX11_tornOnes 32 [.ref 119, .null, .int l2] [.int (0 : Int32), .int l1] M2 Q) ∧ (¬ r2 ≤ (1 : Int32) → G κ mX11_tornOnes 32 [.ref 119, .null, .int l2] [.int (jshl (1 : Int32) l2), .int l1] M2 Q))))))) :
    G κ mX11_tornOnes 4 [.ref 119, .int l1, .int l2] [] M Q := by
  refine g_iload_n (i := 2) dX11_tornOnes_4 rfl rfl ?_
  refine g_aload_n (i := 0) dX11_tornOnes_5 rfl rfl ?_
  refine gf_RX11_60 rfl dX11_tornOnes_6 sh_119 ?_
  refine g_icmp_ge (tgt := 40) dX11_tornOnes_9 rfl ⟨fun hc => ?_, fun hc => ?_⟩
  · replace h := h.1 hc
    refine g_iload_n (i := 1) dX11_tornOnes_40 rfl rfl ?_
    exact g_iret dX11_tornOnes_41 rfl h
  · replace h := h.2 hc
    refine g_iload_n (i := 1) dX11_tornOnes_12 rfl rfl ?_
    refine g_aload_n (i := 0) dX11_tornOnes_13 rfl rfl ?_
    refine g_iload_n (i := 2) dX11_tornOnes_14 rfl rfl ?_
    refine gc_RX11_70 rfl (Nat.le_of_ble_eq_true rfl) dX11_tornOnes_15 sh_119 (Nat.le_of_ble_eq_true rfl) ?_
    refine Cl.mono h (fun r1 M1 h => ?_)
    refine gc_RX11_100 rfl (Nat.le_of_ble_eq_true rfl) dX11_tornOnes_18 (Nat.le_of_ble_eq_true rfl) ?_
    refine Cl.mono h (fun r2 M2 h => ?_)
    refine g_iconst (v := (1 : Int32)) dX11_tornOnes_21 (by decide) ?_
    refine g_icmp_le (tgt := 31) dX11_tornOnes_22 rfl ⟨fun hc => ?_, fun hc => ?_⟩
    · replace h := h.1 hc
      refine g_iconst (v := (0 : Int32)) dX11_tornOnes_31 (by decide) ?_
      exact g_sub _ (sub_c (Or.inr rfl) (sub_c (Or.inl rfl) (sub_c (Or.inr rfl) sub_n))) h
    · replace h := h.2 hc
      refine g_iconst (v := (1 : Int32)) dX11_tornOnes_25 (by decide) ?_
      refine g_iload_n (i := 2) dX11_tornOnes_26 rfl rfl ?_
      refine g_ishl dX11_tornOnes_27 ?_
      refine g_goto (tgt := 32) dX11_tornOnes_28 rfl ?_
      exact g_sub _ (sub_c (Or.inr rfl) (sub_c (Or.inl rfl) (sub_c (Or.inr rfl) sub_n))) h
theorem bX11_tornOnes_32 {κ : gK} {M : MM} {Q : Int32 → MM → Prop} (l2 : Int32) (s0 : Int32) (s1 : Int32)
    (h : G κ mX11_tornOnes 4 [.ref 119, .int (s1 ||| s0), .int (l2 + 1)] [] M Q) :
    G κ mX11_tornOnes 32 [.ref 119, .null, .int l2] [.int s0, .int s1] M Q := by
  refine g_ior dX11_tornOnes_32 ?_
  refine g_istore_n (i := 1) (L' := [.ref 119, .int (s1 ||| s0), .int l2]) dX11_tornOnes_33 rfl (Nat.le_of_ble_eq_true rfl) rfl rfl ?_
  refine g_iinc (v := (l2 + 1)) (L' := [.ref 119, .int (s1 ||| s0), .int (l2 + 1)]) dX11_tornOnes_34 rfl rfl (Nat.le_of_ble_eq_true rfl) rfl rfl ?_
  refine g_goto (tgt := 4) dX11_tornOnes_37 rfl ?_
  exact h
theorem eX11_tornOnes {κ : gK} {M : MM} {Q : Int32 → MM → Prop} 
    (h : G κ mX11_tornOnes 0 [.ref 119, .null, .null] [] M Q) : Cl κ mX11_tornOnes [.ref 119] M Q := g_entry 2 pl_X11_tornOnes (Nat.le_of_ble_eq_true rfl) (L := [.ref 119, .null, .null]) rfl (g_sub _ (sub_c (Or.inr rfl) (sub_c (Or.inr rfl) (sub_c (Or.inr rfl) sub_n))) h)
theorem dX11_cover_0 : decode cX11_cover 0 = .ok (.aload_n 0, 1) := by decide +kernel
theorem dX11_cover_1 : decode cX11_cover 1 = .ok (.invokevirtual 103, 3) := by decide +kernel
theorem dX11_cover_4 : decode cX11_cover 4 = .ok (.istore_n 1, 1) := by decide +kernel
theorem dX11_cover_5 : decode cX11_cover 5 = .ok (.iconst 1, 1) := by decide +kernel
theorem dX11_cover_6 : decode cX11_cover 6 = .ok (.aload_n 0, 1) := by decide +kernel
theorem dX11_cover_7 : decode cX11_cover 7 = .ok (.getfield 60, 3) := by decide +kernel
theorem dX11_cover_10 : decode cX11_cover 10 = .ok (.ishl, 1) := by decide +kernel
theorem dX11_cover_11 : decode cX11_cover 11 = .ok (.iconst 1, 1) := by decide +kernel
theorem dX11_cover_12 : decode cX11_cover 12 = .ok (.isub, 1) := by decide +kernel
theorem dX11_cover_13 : decode cX11_cover 13 = .ok (.istore_n 2, 1) := by decide +kernel
theorem dX11_cover_14 : decode cX11_cover 14 = .ok (.iconst 0, 1) := by decide +kernel
theorem dX11_cover_15 : decode cX11_cover 15 = .ok (.istore_n 3, 1) := by decide +kernel
theorem dX11_cover_16 : decode cX11_cover 16 = .ok (.iload_n 3, 1) := by decide +kernel
theorem dX11_cover_17 : decode cX11_cover 17 = .ok (.iconst 1, 1) := by decide +kernel
theorem dX11_cover_18 : decode cX11_cover 18 = .ok (.aload_n 0, 1) := by decide +kernel
theorem dX11_cover_19 : decode cX11_cover 19 = .ok (.getfield 60, 3) := by decide +kernel
theorem dX11_cover_22 : decode cX11_cover 22 = .ok (.ishl, 1) := by decide +kernel
theorem dX11_cover_23 : decode cX11_cover 23 = .ok (.if_icmp .ge 78, 3) := by decide +kernel
theorem dX11_cover_26 : decode cX11_cover 26 = .ok (.iconst 0, 1) := by decide +kernel
theorem dX11_cover_27 : decode cX11_cover 27 = .ok (.istore 4, 2) := by decide +kernel
theorem dX11_cover_29 : decode cX11_cover 29 = .ok (.iconst 0, 1) := by decide +kernel
theorem dX11_cover_30 : decode cX11_cover 30 = .ok (.istore 5, 2) := by decide +kernel
theorem dX11_cover_32 : decode cX11_cover 32 = .ok (.iload 5, 2) := by decide +kernel
theorem dX11_cover_34 : decode cX11_cover 34 = .ok (.aload_n 0, 1) := by decide +kernel
theorem dX11_cover_35 : decode cX11_cover 35 = .ok (.getfield 60, 3) := by decide +kernel
theorem dX11_cover_38 : decode cX11_cover 38 = .ok (.if_icmp .ge 34, 3) := by decide +kernel
theorem dX11_cover_41 : decode cX11_cover 41 = .ok (.iload 4, 2) := by decide +kernel
theorem dX11_cover_43 : decode cX11_cover 43 = .ok (.iload_n 3, 1) := by decide +kernel
theorem dX11_cover_44 : decode cX11_cover 44 = .ok (.iload 5, 2) := by decide +kernel
theorem dX11_cover_46 : decode cX11_cover 46 = .ok (.ishr, 1) := by decide +kernel
theorem dX11_cover_47 : decode cX11_cover 47 = .ok (.iconst 1, 1) := by decide +kernel
theorem dX11_cover_48 : decode cX11_cover 48 = .ok (.iand, 1) := by decide +kernel
theorem dX11_cover_49 : decode cX11_cover 49 = .ok (.iconst 1, 1) := by decide +kernel
theorem dX11_cover_50 : decode cX11_cover 50 = .ok (.if_icmp .ne 12, 3) := by decide +kernel
theorem dX11_cover_53 : decode cX11_cover 53 = .ok (.aload_n 0, 1) := by decide +kernel
theorem dX11_cover_54 : decode cX11_cover 54 = .ok (.iload 5, 2) := by decide +kernel
theorem dX11_cover_56 : decode cX11_cover 56 = .ok (.invokevirtual 70, 3) := by decide +kernel
theorem dX11_cover_59 : decode cX11_cover 59 = .ok (.goto 4, 3) := by decide +kernel
theorem dX11_cover_62 : decode cX11_cover 62 = .ok (.iconst 0, 1) := by decide +kernel
theorem dX11_cover_63 : decode cX11_cover 63 = .ok (.ior, 1) := by decide +kernel
theorem dX11_cover_64 : decode cX11_cover 64 = .ok (.istore 4, 2) := by decide +kernel
theorem dX11_cover_66 : decode cX11_cover 66 = .ok (.iinc 5 1, 3) := by decide +kernel
theorem dX11_cover_69 : decode cX11_cover 69 = .ok (.goto (-37), 3) := by decide +kernel
theorem dX11_cover_72 : decode cX11_cover 72 = .ok (.iload 4, 2) := by decide +kernel
theorem dX11_cover_74 : decode cX11_cover 74 = .ok (.iload_n 1, 1) := by decide +kernel
theorem dX11_cover_75 : decode cX11_cover 75 = .ok (.if_icmp .ne 18, 3) := by decide +kernel
theorem dX11_cover_78 : decode cX11_cover 78 = .ok (.iload_n 3, 1) := by decide +kernel
theorem dX11_cover_79 : decode cX11_cover 79 = .ok (.invokestatic 100, 3) := by decide +kernel
theorem dX11_cover_82 : decode cX11_cover 82 = .ok (.iload_n 2, 1) := by decide +kernel
theorem dX11_cover_83 : decode cX11_cover 83 = .ok (.invokestatic 100, 3) := by decide +kernel
theorem dX11_cover_86 : decode cX11_cover 86 = .ok (.if_icmp .ge 7, 3) := by decide +kernel
theorem dX11_cover_89 : decode cX11_cover 89 = .ok (.iload_n 3, 1) := by decide +kernel
theorem dX11_cover_90 : decode cX11_cover 90 = .ok (.goto 4, 3) := by decide +kernel
theorem dX11_cover_93 : decode cX11_cover 93 = .ok (.iload_n 2, 1) := by decide +kernel
theorem dX11_cover_94 : decode cX11_cover 94 = .ok (.istore_n 2, 1) := by decide +kernel
theorem dX11_cover_95 : decode cX11_cover 95 = .ok (.iinc 3 1, 3) := by decide +kernel
theorem dX11_cover_98 : decode cX11_cover 98 = .ok (.goto (-82), 3) := by decide +kernel
theorem dX11_cover_101 : decode cX11_cover 101 = .ok (.iload_n 2, 1) := by decide +kernel
theorem dX11_cover_102 : decode cX11_cover 102 = .ok (.ireturn, 1) := by decide +kernel
theorem bX11_cover_0 {κ : gK} {M : MM} {Q : Int32 → MM → Prop} 
    (h : Cl κ mX11_anybody [.ref 119] M (fun r1 M1 => ∀ v2 : Int32, v2 = ((jshl (1 : Int32) (M1 119 2)) - (1 : Int32)) → (G κ mX11_cover 16 [.ref 119, .int r1, .int v2, .int (0 : Int32), .null, .null] [] M1 Q))) :
    G κ mX11_cover 0 [.ref 119, .null, .null, .null, .null, .null] [] M Q := by
  refine g_aload_n (i := 0) dX11_cover_0 rfl rfl ?_
  refine gc_RX11_103 rfl (Nat.le_of_ble_eq_true rfl) dX11_cover_1 sh_119 (Nat.le_of_ble_eq_true rfl) ?_
  refine Cl.mono h (fun r1 M1 h => ?_)
  refine g_istore_n (i := 1) (L' := [.ref 119, .int r1, .null, .null, .null, .null]) dX11_cover_4 rfl (Nat.le_of_ble_eq_true rfl) rfl rfl ?_
  refine g_iconst (v := (1 : Int32)) dX11_cover_5 (by decide) ?_
  refine g_aload_n (i := 0) dX11_cover_6 rfl rfl ?_
  refine gf_RX11_60 rfl dX11_cover_7 sh_119 ?_
  refine g_ishl dX11_cover_10 ?_
  refine g_iconst (v := (1 : Int32)) dX11_cover_11 (by decide) ?_
  refine g_isub dX11_cover_12 ?_
  refine lv_nm (fun v2 hn2 => ?_) (x := ((jshl (1 : Int32) (M1 119 2)) - (1 : Int32)))
  replace h := h v2 hn2
  refine g_istore_n (i := 2) (L' := [.ref 119, .int r1, .int v2, .null, .null, .null]) dX11_cover_13 rfl (Nat.le_of_ble_eq_true rfl) rfl rfl ?_
  refine g_iconst (v := (0 : Int32)) dX11_cover_14 (by decide) ?_
  refine g_istore_n (i := 3) (L' := [.ref 119, .int r1, .int v2, .int (0 : Int32), .null, .null]) dX11_cover_15 rfl (Nat.le_of_ble_eq_true rfl) rfl rfl ?_
  exact h
theorem bX11_cover_16 {κ : gK} {M : MM} {Q : Int32 → MM → Prop} (l1 : Int32) (l2 : Int32) (l3 : Int32)
    (h : (((jshl (1 : Int32) (M 119 2)) ≤ l3 → Q l2 M) ∧ (¬ (jshl (1 : Int32) (M 119 2)) ≤ l3 → G κ mX11_cover 32 [.ref 119, .int l1, .int l2, .int l3, .int (0 : Int32), .int (0 : Int32)] [] M Q))) :
    G κ mX11_cover 16 [.ref 119, .int l1, .int l2, .int l3, .null, .null] [] M Q := by
  refine g_iload_n (i := 3) dX11_cover_16 rfl rfl ?_
  refine g_iconst (v := (1 : Int32)) dX11_cover_17 (by decide) ?_
  refine g_aload_n (i := 0) dX11_cover_18 rfl rfl ?_
  refine gf_RX11_60 rfl dX11_cover_19 sh_119 ?_
  refine g_ishl dX11_cover_22 ?_
  refine g_icmp_ge (tgt := 101) dX11_cover_23 rfl ⟨fun hc => ?_, fun hc => ?_⟩
  · replace h := h.1 hc
    refine g_iload_n (i := 2) dX11_cover_101 rfl rfl ?_
    exact g_iret dX11_cover_102 rfl h
  · replace h := h.2 hc
    refine g_iconst (v := (0 : Int32)) dX11_cover_26 (by decide) ?_
    refine g_istore (i := 4) (L' := [.ref 119, .int l1, .int l2, .int l3, .int (0 : Int32), .null]) dX11_cover_27 (Nat.le_of_ble_eq_true rfl) rfl rfl ?_
    refine g_iconst (v := (0 : Int32)) dX11_cover_29 (by decide) ?_
    refine g_istore (i := 5) (L' := [.ref 119, .int l1, .int l2, .int l3, .int (0 : Int32), .int (0 : Int32)]) dX11_cover_30 (Nat.le_of_ble_eq_true rfl) rfl rfl ?_
    exact h
theorem bX11_cover_32 {κ : gK} {M : MM} {Q : Int32 → MM → Prop} (l1 : Int32) (l2 : Int32) (l3 : Int32) (l4 : Int32) (l5 : Int32)
    (h : (((M 119 2) ≤ l5 → ((l4 = l1 → Cl κ mX11_many [.int l3] M (fun r1 M1 => Cl κ mX11_many [.int l2] M1 (fun r2 M2 => ((r2 ≤ r1 → G κ mX11_cover 93 [.ref 119, .int l1, .int l2, .int l3, .null, .null] [] M2 Q) ∧ (¬ r2 ≤ r1 → G κ mX11_cover 94 [.ref 119, .int l1, .null, .int l3, .null, .null] [.int l3] M2 Q))))) ∧ (¬ l4 = l1 → G κ mX11_cover 93 [.ref 119, .int l1, .int l2, .int l3, .null, .null] [] M Q))) ∧ (¬ (M 119 2) ≤ l5 → ((((jshr l3 l5) &&& (1 : Int32)) = (1 : Int32) → Cl κ mX11_layersOf [.ref 119, .int l5] M (fun r3 M3 => G κ mX11_cover 63 [.ref 119, .int l1, .int l2, .int l3, .null, .int l5] [.int r3, .int l4] M3 Q)) ∧ (¬ ((jshr l3 l5) &&& (1 : Int32)) = (1 : Int32) → G κ mX11_cover 63 [.ref 119, .int l1, .int l2, .int l3, .null, .int l5] [.int (0 : Int32), .int l4] M Q))))) :
    G κ mX11_cover 32 [.ref 119, .int l1, .int l2, .int l3, .int l4, .int l5] [] M Q := by
  refine g_iload (i := 5) dX11_cover_32 rfl ?_
  refine g_aload_n (i := 0) dX11_cover_34 rfl rfl ?_
  refine gf_RX11_60 rfl dX11_cover_35 sh_119 ?_
  refine g_icmp_ge (tgt := 72) dX11_cover_38 rfl ⟨fun hc => ?_, fun hc => ?_⟩
  · replace h := h.1 hc
    refine g_iload (i := 4) dX11_cover_72 rfl ?_
    refine g_iload_n (i := 1) dX11_cover_74 rfl rfl ?_
    refine g_icmp_ne (tgt := 93) dX11_cover_75 rfl ⟨fun hc => ?_, fun hc => ?_⟩
    · replace h := h.1 hc
      refine g_iload_n (i := 3) dX11_cover_78 rfl rfl ?_
      refine gc_RX11_100 rfl (Nat.le_of_ble_eq_true rfl) dX11_cover_79 (Nat.le_of_ble_eq_true rfl) ?_
      refine Cl.mono h (fun r1 M1 h => ?_)
      refine g_iload_n (i := 2) dX11_cover_82 rfl rfl ?_
      refine gc_RX11_100 rfl (Nat.le_of_ble_eq_true rfl) dX11_cover_83 (Nat.le_of_ble_eq_true rfl) ?_
      refine Cl.mono h (fun r2 M2 h => ?_)
      refine g_icmp_ge (tgt := 93) dX11_cover_86 rfl ⟨fun hc => ?_, fun hc => ?_⟩
      · replace h := h.1 hc
        exact g_sub _ (sub_c (Or.inr rfl) (sub_c (Or.inr rfl) (sub_c (Or.inr rfl) (sub_c (Or.inr rfl) (sub_c (Or.inl rfl) (sub_c (Or.inl rfl) sub_n)))))) h
      · replace h := h.2 hc
        refine g_iload_n (i := 3) dX11_cover_89 rfl rfl ?_
        refine g_goto (tgt := 94) dX11_cover_90 rfl ?_
        exact g_sub _ (sub_c (Or.inr rfl) (sub_c (Or.inr rfl) (sub_c (Or.inl rfl) (sub_c (Or.inr rfl) (sub_c (Or.inl rfl) (sub_c (Or.inl rfl) sub_n)))))) h
    · replace h := h.2 hc
      exact g_sub _ (sub_c (Or.inr rfl) (sub_c (Or.inr rfl) (sub_c (Or.inr rfl) (sub_c (Or.inr rfl) (sub_c (Or.inl rfl) (sub_c (Or.inl rfl) sub_n)))))) h
  · replace h := h.2 hc
    refine g_iload (i := 4) dX11_cover_41 rfl ?_
    refine g_iload_n (i := 3) dX11_cover_43 rfl rfl ?_
    refine g_iload (i := 5) dX11_cover_44 rfl ?_
    refine g_ishr dX11_cover_46 ?_
    refine g_iconst (v := (1 : Int32)) dX11_cover_47 (by decide) ?_
    refine g_iand dX11_cover_48 ?_
    refine g_iconst (v := (1 : Int32)) dX11_cover_49 (by decide) ?_
    refine g_icmp_ne (tgt := 62) dX11_cover_50 rfl ⟨fun hc => ?_, fun hc => ?_⟩
    · replace h := h.1 hc
      refine g_aload_n (i := 0) dX11_cover_53 rfl rfl ?_
      refine g_iload (i := 5) dX11_cover_54 rfl ?_
      refine gc_RX11_70 rfl (Nat.le_of_ble_eq_true rfl) dX11_cover_56 sh_119 (Nat.le_of_ble_eq_true rfl) ?_
      refine Cl.mono h (fun r3 M3 h => ?_)
      refine g_goto (tgt := 63) dX11_cover_59 rfl ?_
      exact g_sub _ (sub_c (Or.inr rfl) (sub_c (Or.inr rfl) (sub_c (Or.inr rfl) (sub_c (Or.inr rfl) (sub_c (Or.inl rfl) (sub_c (Or.inr rfl) sub_n)))))) h
    · replace h := h.2 hc
      refine g_iconst (v := (0 : Int32)) dX11_cover_62 (by decide) ?_
      exact g_sub _ (sub_c (Or.inr rfl) (sub_c (Or.inr rfl) (sub_c (Or.inr rfl) (sub_c (Or.inr rfl) (sub_c (Or.inl rfl) (sub_c (Or.inr rfl) sub_n)))))) h
theorem bX11_cover_63 {κ : gK} {M : MM} {Q : Int32 → MM → Prop} (l1 : Int32) (l2 : Int32) (l3 : Int32) (l5 : Int32) (s0 : Int32) (s1 : Int32)
    (h : G κ mX11_cover 32 [.ref 119, .int l1, .int l2, .int l3, .int (s1 ||| s0), .int (l5 + 1)] [] M Q) :
    G κ mX11_cover 63 [.ref 119, .int l1, .int l2, .int l3, .null, .int l5] [.int s0, .int s1] M Q := by
  refine g_ior dX11_cover_63 ?_
  refine g_istore (i := 4) (L' := [.ref 119, .int l1, .int l2, .int l3, .int (s1 ||| s0), .int l5]) dX11_cover_64 (Nat.le_of_ble_eq_true rfl) rfl rfl ?_
  refine g_iinc (v := (l5 + 1)) (L' := [.ref 119, .int l1, .int l2, .int l3, .int (s1 ||| s0), .int (l5 + 1)]) dX11_cover_66 rfl rfl (Nat.le_of_ble_eq_true rfl) rfl rfl ?_
  refine g_goto (tgt := 32) dX11_cover_69 rfl ?_
  exact h
theorem bX11_cover_93 {κ : gK} {M : MM} {Q : Int32 → MM → Prop} (l1 : Int32) (l2 : Int32) (l3 : Int32)
    (h : G κ mX11_cover 94 [.ref 119, .int l1, .null, .int l3, .null, .null] [.int l2] M Q) :
    G κ mX11_cover 93 [.ref 119, .int l1, .int l2, .int l3, .null, .null] [] M Q := by
  refine g_iload_n (i := 2) dX11_cover_93 rfl rfl ?_
  exact g_sub _ (sub_c (Or.inr rfl) (sub_c (Or.inr rfl) (sub_c (Or.inl rfl) (sub_c (Or.inr rfl) (sub_c (Or.inr rfl) (sub_c (Or.inr rfl) sub_n)))))) h
theorem bX11_cover_94 {κ : gK} {M : MM} {Q : Int32 → MM → Prop} (l1 : Int32) (l3 : Int32) (s0 : Int32)
    (h : G κ mX11_cover 16 [.ref 119, .int l1, .int s0, .int (l3 + 1), .null, .null] [] M Q) :
    G κ mX11_cover 94 [.ref 119, .int l1, .null, .int l3, .null, .null] [.int s0] M Q := by
  refine g_istore_n (i := 2) (L' := [.ref 119, .int l1, .int s0, .int l3, .null, .null]) dX11_cover_94 rfl (Nat.le_of_ble_eq_true rfl) rfl rfl ?_
  refine g_iinc (v := (l3 + 1)) (L' := [.ref 119, .int l1, .int s0, .int (l3 + 1), .null, .null]) dX11_cover_95 rfl rfl (Nat.le_of_ble_eq_true rfl) rfl rfl ?_
  refine g_goto (tgt := 16) dX11_cover_98 rfl ?_
  exact h
theorem eX11_cover {κ : gK} {M : MM} {Q : Int32 → MM → Prop} 
    (h : G κ mX11_cover 0 [.ref 119, .null, .null, .null, .null, .null] [] M Q) : Cl κ mX11_cover [.ref 119] M Q := g_entry 5 pl_X11_cover (Nat.le_of_ble_eq_true rfl) (L := [.ref 119, .null, .null, .null, .null, .null]) rfl (g_sub _ (sub_c (Or.inr rfl) (sub_c (Or.inr rfl) (sub_c (Or.inr rfl) (sub_c (Or.inr rfl) (sub_c (Or.inr rfl) (sub_c (Or.inr rfl) sub_n)))))) h)
theorem dX11_fullest_0 : decode cX11_fullest 0 = .ok (.iconst (-1), 1) := by decide +kernel
theorem dX11_fullest_1 : decode cX11_fullest 1 = .ok (.istore_n 1, 1) := by decide +kernel
theorem dX11_fullest_2 : decode cX11_fullest 2 = .ok (.iconst 0, 1) := by decide +kernel
theorem dX11_fullest_3 : decode cX11_fullest 3 = .ok (.istore_n 2, 1) := by decide +kernel
theorem dX11_fullest_4 : decode cX11_fullest 4 = .ok (.iconst 0, 1) := by decide +kernel
theorem dX11_fullest_5 : decode cX11_fullest 5 = .ok (.istore_n 3, 1) := by decide +kernel
theorem dX11_fullest_6 : decode cX11_fullest 6 = .ok (.iload_n 3, 1) := by decide +kernel
theorem dX11_fullest_7 : decode cX11_fullest 7 = .ok (.aload_n 0, 1) := by decide +kernel
theorem dX11_fullest_8 : decode cX11_fullest 8 = .ok (.getfield 67, 3) := by decide +kernel
theorem dX11_fullest_11 : decode cX11_fullest 11 = .ok (.if_icmp .ge 44, 3) := by decide +kernel
theorem dX11_fullest_14 : decode cX11_fullest 14 = .ok (.aload_n 0, 1) := by decide +kernel
theorem dX11_fullest_15 : decode cX11_fullest 15 = .ok (.iload_n 3, 1) := by decide +kernel
theorem dX11_fullest_16 : decode cX11_fullest 16 = .ok (.invokevirtual 107, 3) := by decide +kernel
theorem dX11_fullest_19 : decode cX11_fullest 19 = .ok (.invokestatic 100, 3) := by decide +kernel
theorem dX11_fullest_22 : decode cX11_fullest 22 = .ok (.istore 4, 2) := by decide +kernel
theorem dX11_fullest_24 : decode cX11_fullest 24 = .ok (.iload 4, 2) := by decide +kernel
theorem dX11_fullest_26 : decode cX11_fullest 26 = .ok (.iload_n 2, 1) := by decide +kernel
theorem dX11_fullest_27 : decode cX11_fullest 27 = .ok (.if_icmp .le 7, 3) := by decide +kernel
theorem dX11_fullest_30 : decode cX11_fullest 30 = .ok (.iload_n 3, 1) := by decide +kernel
theorem dX11_fullest_31 : decode cX11_fullest 31 = .ok (.goto 4, 3) := by decide +kernel
theorem dX11_fullest_34 : decode cX11_fullest 34 = .ok (.iload_n 1, 1) := by decide +kernel
theorem dX11_fullest_35 : decode cX11_fullest 35 = .ok (.istore_n 1, 1) := by decide +kernel
theorem dX11_fullest_36 : decode cX11_fullest 36 = .ok (.iload 4, 2) := by decide +kernel
theorem dX11_fullest_38 : decode cX11_fullest 38 = .ok (.iload_n 2, 1) := by decide +kernel
theorem dX11_fullest_39 : decode cX11_fullest 39 = .ok (.if_icmp .le 8, 3) := by decide +kernel
theorem dX11_fullest_42 : decode cX11_fullest 42 = .ok (.iload 4, 2) := by decide +kernel
theorem dX11_fullest_44 : decode cX11_fullest 44 = .ok (.goto 4, 3) := by decide +kernel
theorem dX11_fullest_47 : decode cX11_fullest 47 = .ok (.iload_n 2, 1) := by decide +kernel
theorem dX11_fullest_48 : decode cX11_fullest 48 = .ok (.istore_n 2, 1) := by decide +kernel
theorem dX11_fullest_49 : decode cX11_fullest 49 = .ok (.iinc 3 1, 3) := by decide +kernel
theorem dX11_fullest_52 : decode cX11_fullest 52 = .ok (.goto (-46), 3) := by decide +kernel
theorem dX11_fullest_55 : decode cX11_fullest 55 = .ok (.iload_n 1, 1) := by decide +kernel
theorem dX11_fullest_56 : decode cX11_fullest 56 = .ok (.ireturn, 1) := by decide +kernel
theorem bX11_fullest_0 {κ : gK} {M : MM} {Q : Int32 → MM → Prop} 
    (h : G κ mX11_fullest 6 [.ref 119, .int (-1 : Int32), .int (0 : Int32), .int (0 : Int32), .null] [] M Q) :
    G κ mX11_fullest 0 [.ref 119, .null, .null, .null, .null] [] M Q := by
  refine g_iconst (v := (-1 : Int32)) dX11_fullest_0 (by decide) ?_
  refine g_istore_n (i := 1) (L' := [.ref 119, .int (-1 : Int32), .null, .null, .null]) dX11_fullest_1 rfl (Nat.le_of_ble_eq_true rfl) rfl rfl ?_
  refine g_iconst (v := (0 : Int32)) dX11_fullest_2 (by decide) ?_
  refine g_istore_n (i := 2) (L' := [.ref 119, .int (-1 : Int32), .int (0 : Int32), .null, .null]) dX11_fullest_3 rfl (Nat.le_of_ble_eq_true rfl) rfl rfl ?_
  refine g_iconst (v := (0 : Int32)) dX11_fullest_4 (by decide) ?_
  refine g_istore_n (i := 3) (L' := [.ref 119, .int (-1 : Int32), .int (0 : Int32), .int (0 : Int32), .null]) dX11_fullest_5 rfl (Nat.le_of_ble_eq_true rfl) rfl rfl ?_
  exact h
theorem bX11_fullest_6 {κ : gK} {M : MM} {Q : Int32 → MM → Prop} (l1 : Int32) (l2 : Int32) (l3 : Int32)
    (h : (((M 119 0) ≤ l3 → Q l1 M) ∧ (¬ (M 119 0) ≤ l3 → Cl κ mX11_whoOn [.ref 119, .int l3] M (fun r1 M1 => Cl κ mX11_many [.int r1] M1 (fun r2 M2 => ((r2 ≤ l2 → G κ mX11_fullest 35 [.ref 119, .null, .int l2, .int l3, .int r2] [.int l1] M2 Q) ∧ (¬ r2 ≤ l2 → G κ mX11_fullest 35 [.ref 119, .null, .int l2, .int l3, .int r2] [.int l3] M2 Q))))))) :
    G κ mX11_fullest 6 [.ref 119, .int l1, .int l2, .int l3, .null] [] M Q := by
  refine g_iload_n (i := 3) dX11_fullest_6 rfl rfl ?_
  refine g_aload_n (i := 0) dX11_fullest_7 rfl rfl ?_
  refine gf_RX11_67 rfl dX11_fullest_8 sh_119 ?_
  refine g_icmp_ge (tgt := 55) dX11_fullest_11 rfl ⟨fun hc => ?_, fun hc => ?_⟩
  · replace h := h.1 hc
    refine g_iload_n (i := 1) dX11_fullest_55 rfl rfl ?_
    exact g_iret dX11_fullest_56 rfl h
  · replace h := h.2 hc
    refine g_aload_n (i := 0) dX11_fullest_14 rfl rfl ?_
    refine g_iload_n (i := 3) dX11_fullest_15 rfl rfl ?_
    refine gc_RX11_107 rfl (Nat.le_of_ble_eq_true rfl) dX11_fullest_16 sh_119 (Nat.le_of_ble_eq_true rfl) ?_
    refine Cl.mono h (fun r1 M1 h => ?_)
    refine gc_RX11_100 rfl (Nat.le_of_ble_eq_true rfl) dX11_fullest_19 (Nat.le_of_ble_eq_true rfl) ?_
    refine Cl.mono h (fun r2 M2 h => ?_)
    refine g_istore (i := 4) (L' := [.ref 119, .int l1, .int l2, .int l3, .int r2]) dX11_fullest_22 (Nat.le_of_ble_eq_true rfl) rfl rfl ?_
    refine g_iload (i := 4) dX11_fullest_24 rfl ?_
    refine g_iload_n (i := 2) dX11_fullest_26 rfl rfl ?_
    refine g_icmp_le (tgt := 34) dX11_fullest_27 rfl ⟨fun hc => ?_, fun hc => ?_⟩
    · replace h := h.1 hc
      refine g_iload_n (i := 1) dX11_fullest_34 rfl rfl ?_
      exact g_sub _ (sub_c (Or.inr rfl) (sub_c (Or.inl rfl) (sub_c (Or.inr rfl) (sub_c (Or.inr rfl) (sub_c (Or.inr rfl) sub_n))))) h
    · replace h := h.2 hc
      refine g_iload_n (i := 3) dX11_fullest_30 rfl rfl ?_
      refine g_goto (tgt := 35) dX11_fullest_31 rfl ?_
      exact g_sub _ (sub_c (Or.inr rfl) (sub_c (Or.inl rfl) (sub_c (Or.inr rfl) (sub_c (Or.inr rfl) (sub_c (Or.inr rfl) sub_n))))) h
theorem bX11_fullest_35 {κ : gK} {M : MM} {Q : Int32 → MM → Prop} (l2 : Int32) (l3 : Int32) (l4 : Int32) (s0 : Int32)
    (h : ((l4 ≤ l2 → G κ mX11_fullest 48 [.ref 119, .int s0, .null, .int l3, .null] [.int l2] M Q) ∧ (¬ l4 ≤ l2 → G κ mX11_fullest 48 [.ref 119, .int s0, .null, .int l3, .null] [.int l4] M Q))) :
    G κ mX11_fullest 35 [.ref 119, .null, .int l2, .int l3, .int l4] [.int s0] M Q := by
  refine g_istore_n (i := 1) (L' := [.ref 119, .int s0, .int l2, .int l3, .int l4]) dX11_fullest_35 rfl (Nat.le_of_ble_eq_true rfl) rfl rfl ?_
  refine g_iload (i := 4) dX11_fullest_36 rfl ?_
  refine g_iload_n (i := 2) dX11_fullest_38 rfl rfl ?_
  refine g_icmp_le (tgt := 47) dX11_fullest_39 rfl ⟨fun hc => ?_, fun hc => ?_⟩
  · replace h := h.1 hc
    refine g_iload_n (i := 2) dX11_fullest_47 rfl rfl ?_
    exact g_sub _ (sub_c (Or.inr rfl) (sub_c (Or.inr rfl) (sub_c (Or.inl rfl) (sub_c (Or.inr rfl) (sub_c (Or.inl rfl) sub_n))))) h
  · replace h := h.2 hc
    refine g_iload (i := 4) dX11_fullest_42 rfl ?_
    refine g_goto (tgt := 48) dX11_fullest_44 rfl ?_
    exact g_sub _ (sub_c (Or.inr rfl) (sub_c (Or.inr rfl) (sub_c (Or.inl rfl) (sub_c (Or.inr rfl) (sub_c (Or.inl rfl) sub_n))))) h
theorem bX11_fullest_48 {κ : gK} {M : MM} {Q : Int32 → MM → Prop} (l1 : Int32) (l3 : Int32) (s0 : Int32)
    (h : G κ mX11_fullest 6 [.ref 119, .int l1, .int s0, .int (l3 + 1), .null] [] M Q) :
    G κ mX11_fullest 48 [.ref 119, .int l1, .null, .int l3, .null] [.int s0] M Q := by
  refine g_istore_n (i := 2) (L' := [.ref 119, .int l1, .int s0, .int l3, .null]) dX11_fullest_48 rfl (Nat.le_of_ble_eq_true rfl) rfl rfl ?_
  refine g_iinc (v := (l3 + 1)) (L' := [.ref 119, .int l1, .int s0, .int (l3 + 1), .null]) dX11_fullest_49 rfl rfl (Nat.le_of_ble_eq_true rfl) rfl rfl ?_
  refine g_goto (tgt := 6) dX11_fullest_52 rfl ?_
  exact h
theorem eX11_fullest {κ : gK} {M : MM} {Q : Int32 → MM → Prop} 
    (h : G κ mX11_fullest 0 [.ref 119, .null, .null, .null, .null] [] M Q) : Cl κ mX11_fullest [.ref 119] M Q := g_entry 4 pl_X11_fullest (Nat.le_of_ble_eq_true rfl) (L := [.ref 119, .null, .null, .null, .null]) rfl (g_sub _ (sub_c (Or.inr rfl) (sub_c (Or.inr rfl) (sub_c (Or.inr rfl) (sub_c (Or.inr rfl) (sub_c (Or.inr rfl) sub_n))))) h)
