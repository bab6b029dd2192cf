theorem dX1_fewest_0 : decode cX1_fewest 0 = .ok (.aload_n 0, 1) := by decide +kernel
theorem dX1_fewest_1 : decode cX1_fewest 1 = .ok (.aload_n 1, 1) := by decide +kernel
theorem dX1_fewest_2 : decode cX1_fewest 2 = .ok (.aload_n 2, 1) := by decide +kernel
theorem dX1_fewest_3 : decode cX1_fewest 3 = .ok (.invokevirtual 18, 3) := by decide +kernel
theorem dX1_fewest_6 : decode cX1_fewest 6 = .ok (.iconst 0, 1) := by decide +kernel
theorem dX1_fewest_7 : decode cX1_fewest 7 = .ok (.istore 4, 2) := by decide +kernel
theorem dX1_fewest_9 : decode cX1_fewest 9 = .ok (.iload 4, 2) := by decide +kernel
theorem dX1_fewest_11 : decode cX1_fewest 11 = .ok (.iconst 5, 1) := by decide +kernel
theorem dX1_fewest_12 : decode cX1_fewest 12 = .ok (.if_icmp .gt 23, 3) := by decide +kernel
theorem dX1_fewest_15 : decode cX1_fewest 15 = .ok (.aload_n 0, 1) := by decide +kernel
theorem dX1_fewest_16 : decode cX1_fewest 16 = .ok (.aload_n 2, 1) := by decide +kernel
theorem dX1_fewest_17 : decode cX1_fewest 17 = .ok (.iload_n 3, 1) := by decide +kernel
theorem dX1_fewest_18 : decode cX1_fewest 18 = .ok (.iload 4, 2) := by decide +kernel
theorem dX1_fewest_20 : decode cX1_fewest 20 = .ok (.invokevirtual 22, 3) := by decide +kernel
theorem dX1_fewest_23 : decode cX1_fewest 23 = .ok (.ifCond .eq 6, 3) := by decide +kernel
theorem dX1_fewest_26 : decode cX1_fewest 26 = .ok (.iload 4, 2) := by decide +kernel
theorem dX1_fewest_28 : decode cX1_fewest 28 = .ok (.ireturn, 1) := by decide +kernel
theorem dX1_fewest_29 : decode cX1_fewest 29 = .ok (.iinc 4 1, 3) := by decide +kernel
theorem dX1_fewest_32 : decode cX1_fewest 32 = .ok (.goto (-23), 3) := by decide +kernel
theorem dX1_fewest_35 : decode cX1_fewest 35 = .ok (.iconst (-1), 1) := by decide +kernel
theorem dX1_fewest_36 : decode cX1_fewest 36 = .ok (.ireturn, 1) := by decide +kernel
theorem bX1_fewest_0 {κ : gK} {M : MM} {Q : Int32 → MM → Prop} (o1 : Nat) (o2 : Nat) (ho1 : twO o1) (ho2 : stO o2) (l3 : Int32)
    (h : Cl κ mX1_fillBehind [.ref 99, .ref o1, .ref o2] M (fun _ M1 => G κ mX1_fewest 9 [.ref 99, .null, .ref o2, .int l3, .int (0 : Int32)] [] M1 Q)) :
    G κ mX1_fewest 0 [.ref 99, .ref o1, .ref o2, .int l3, .null] [] M Q := by
  refine g_aload_n (i := 0) dX1_fewest_0 rfl rfl ?_
  refine g_aload_n (i := 1) dX1_fewest_1 rfl rfl ?_
  refine g_aload_n (i := 2) dX1_fewest_2 rfl rfl ?_
  refine gc_RX1_18 rfl (Nat.le_of_ble_eq_true rfl) dX1_fewest_3 sh_99 (Nat.le_of_ble_eq_true rfl) ?_
  refine Cl.mono h (fun r1 M1 h => ?_)
  refine g_iconst (v := (0 : Int32)) dX1_fewest_6 (by decide) ?_
  refine g_istore (i := 4) (L' := [.ref 99, .ref o1, .ref o2, .int l3, .int (0 : Int32)]) dX1_fewest_7 (Nat.le_of_ble_eq_true rfl) rfl rfl ?_
  exact g_sub _ (sub_c (Or.inr rfl) (sub_c (Or.inl rfl) (sub_c (Or.inr rfl) (sub_c (Or.inr rfl) (sub_c (Or.inr rfl) sub_n))))) h
theorem bX1_fewest_9 {κ : gK} {M : MM} {Q : Int32 → MM → Prop} (o1 : Nat) (o2 : Nat) (ho1 : twO o1) (ho2 : stO o2) (l3 : Int32) (l4 : Int32)
    (h : (((5 : Int32) < l4 → Q (-1 : Int32) M) ∧ (¬ (5 : Int32) < l4 → Cl κ mX1_findLights [.ref 99, .ref o2, .int l3, .int l4] M (fun r1 M1 => ((r1 = 0 → G κ mX1_fewest 9 [.ref 99, .null, .ref o2, .int l3, .int (l4 + 1)] [] M1 Q) ∧ (¬ r1 = 0 → Q l4 M1)))))) :
    G κ mX1_fewest 9 [.ref 99, .null, .ref o2, .int l3, .int l4] [] M Q := by
  refine g_iload (i := 4) dX1_fewest_9 rfl ?_
  refine g_iconst (v := (5 : Int32)) dX1_fewest_11 (by decide) ?_
  refine g_icmp_gt (tgt := 35) dX1_fewest_12 rfl ⟨fun hc => ?_, fun hc => ?_⟩
  · replace h := h.1 hc
    refine g_iconst (v := (-1 : Int32)) dX1_fewest_35 (by decide) ?_
    exact g_iret dX1_fewest_36 rfl h
  · replace h := h.2 hc
    refine g_aload_n (i := 0) dX1_fewest_15 rfl rfl ?_
    refine g_aload_n (i := 2) dX1_fewest_16 rfl rfl ?_
    refine g_iload_n (i := 3) dX1_fewest_17 rfl rfl ?_
    refine g_iload (i := 4) dX1_fewest_18 rfl ?_
    refine gc_RX1_22 rfl (Nat.le_of_ble_eq_true rfl) dX1_fewest_20 sh_99 (Nat.le_of_ble_eq_true rfl) ?_
    refine Cl.mono h (fun r1 M1 h => ?_)
    refine g_if_eq (tgt := 29) dX1_fewest_23 rfl ⟨fun hc => ?_, fun hc => ?_⟩
    · replace h := h.1 hc
      refine g_iinc (v := (l4 + 1)) (L' := [.ref 99, .null, .ref o2, .int l3, .int (l4 + 1)]) dX1_fewest_29 rfl rfl (Nat.le_of_ble_eq_true rfl) rfl rfl ?_
      refine g_goto (tgt := 9) dX1_fewest_32 rfl ?_
      exact h
    · replace h := h.2 hc
      refine g_iload (i := 4) dX1_fewest_26 rfl ?_
      exact g_iret dX1_fewest_28 rfl h
theorem eX1_fewest {κ : gK} {M : MM} {Q : Int32 → MM → Prop} (o1 : Nat) (o2 : Nat) (l3 : Int32)
    (h : G κ mX1_fewest 0 [.ref 99, .ref o1, .ref o2, .int l3, .null] [] M Q) : Cl κ mX1_fewest [.ref 99, .ref o1, .ref o2, .int l3] M Q := g_entry 1 pl_X1_fewest (Nat.le_of_ble_eq_true rfl) (L := [.ref 99, .ref o1, .ref o2, .int l3, .null]) rfl (g_sub _ (sub_c (Or.inr rfl) (sub_c (Or.inr rfl) (sub_c (Or.inr rfl) (sub_c (Or.inr rfl) (sub_c (Or.inr rfl) sub_n))))) h)
theorem dX1_figures_0 : decode cX1_figures 0 = .ok (.iconst 0, 1) := by decide +kernel
theorem dX1_figures_1 : decode cX1_figures 1 = .ok (.istore_n 2, 1) := by decide +kernel
theorem dX1_figures_2 : decode cX1_figures 2 = .ok (.iconst 0, 1) := by decide +kernel
theorem dX1_figures_3 : decode cX1_figures 3 = .ok (.istore_n 3, 1) := by decide +kernel
theorem dX1_figures_4 : decode cX1_figures 4 = .ok (.iload_n 3, 1) := by decide +kernel
theorem dX1_figures_5 : decode cX1_figures 5 = .ok (.iload_n 1, 1) := by decide +kernel
theorem dX1_figures_6 : decode cX1_figures 6 = .ok (.if_icmp .ge 26, 3) := by decide +kernel
theorem dX1_figures_9 : decode cX1_figures 9 = .ok (.iload_n 3, 1) := by decide +kernel
theorem dX1_figures_10 : decode cX1_figures 10 = .ok (.iconst 5, 1) := by decide +kernel
theorem dX1_figures_11 : decode cX1_figures 11 = .ok (.if_icmp .ge 21, 3) := by decide +kernel
theorem dX1_figures_14 : decode cX1_figures 14 = .ok (.iload_n 2, 1) := by decide +kernel
theorem dX1_figures_15 : decode cX1_figures 15 = .ok (.bipush 10, 2) := by decide +kernel
theorem dX1_figures_17 : decode cX1_figures 17 = .ok (.imul, 1) := by decide +kernel
theorem dX1_figures_18 : decode cX1_figures 18 = .ok (.aload_n 0, 1) := by decide +kernel
theorem dX1_figures_19 : decode cX1_figures 19 = .ok (.getfield 9, 3) := by decide +kernel
theorem dX1_figures_22 : decode cX1_figures 22 = .ok (.iload_n 3, 1) := by decide +kernel
theorem dX1_figures_23 : decode cX1_figures 23 = .ok (.iaload, 1) := by decide +kernel
theorem dX1_figures_24 : decode cX1_figures 24 = .ok (.iadd, 1) := by decide +kernel
theorem dX1_figures_25 : decode cX1_figures 25 = .ok (.istore_n 2, 1) := by decide +kernel
theorem dX1_figures_26 : decode cX1_figures 26 = .ok (.iinc 3 1, 3) := by decide +kernel
theorem dX1_figures_29 : decode cX1_figures 29 = .ok (.goto (-25), 3) := by decide +kernel
theorem dX1_figures_32 : decode cX1_figures 32 = .ok (.iload_n 2, 1) := by decide +kernel
theorem dX1_figures_33 : decode cX1_figures 33 = .ok (.ireturn, 1) := by decide +kernel
theorem bX1_figures_0 {κ : gK} {M : MM} {Q : Int32 → MM → Prop} (l1 : Int32)
    (h : G κ mX1_figures 4 [.ref 99, .int l1, .int (0 : Int32), .int (0 : Int32)] [] M Q) :
    G κ mX1_figures 0 [.ref 99, .int l1, .null, .null] [] M Q := by
  refine g_iconst (v := (0 : Int32)) dX1_figures_0 (by decide) ?_
  refine g_istore_n (i := 2) (L' := [.ref 99, .int l1, .int (0 : Int32), .null]) dX1_figures_1 rfl (Nat.le_of_ble_eq_true rfl) rfl rfl ?_
  refine g_iconst (v := (0 : Int32)) dX1_figures_2 (by decide) ?_
  refine g_istore_n (i := 3) (L' := [.ref 99, .int l1, .int (0 : Int32), .int (0 : Int32)]) dX1_figures_3 rfl (Nat.le_of_ble_eq_true rfl) rfl rfl ?_
  exact h
theorem bX1_figures_4 {κ : gK} {M : MM} {Q : Int32 → MM → Prop} (l1 : Int32) (l2 : Int32) (l3 : Int32)
    (h : ((l1 ≤ l3 → G κ mX1_figures 32 [.null, .null, .int l2, .null] [] M Q) ∧ (¬ l1 ≤ l3 → (((5 : Int32) ≤ l3 → G κ mX1_figures 32 [.null, .null, .int l2, .null] [] M Q) ∧ (¬ (5 : Int32) ≤ l3 → (vp_in l3 5) ∧ (∀ v1 : Int32, v1 = ((l2 * (10 : Int32)) + (M 100 (l3).toNatClampNeg)) → (G κ mX1_figures 4 [.ref 99, .int l1, .int v1, .int (l3 + 1)] [] M Q))))))) :
    G κ mX1_figures 4 [.ref 99, .int l1, .int l2, .int l3] [] M Q := by
  refine g_iload_n (i := 3) dX1_figures_4 rfl rfl ?_
  refine g_iload_n (i := 1) dX1_figures_5 rfl rfl ?_
  refine g_icmp_ge (tgt := 32) dX1_figures_6 rfl ⟨fun hc => ?_, fun hc => ?_⟩
  · replace h := h.1 hc
    exact g_sub _ (sub_c (Or.inl rfl) (sub_c (Or.inl rfl) (sub_c (Or.inr rfl) (sub_c (Or.inl rfl) sub_n)))) h
  · replace h := h.2 hc
    refine g_iload_n (i := 3) dX1_figures_9 rfl rfl ?_
    refine g_iconst (v := (5 : Int32)) dX1_figures_10 (by decide) ?_
    refine g_icmp_ge (tgt := 32) dX1_figures_11 rfl ⟨fun hc => ?_, fun hc => ?_⟩
    · replace h := h.1 hc
      exact g_sub _ (sub_c (Or.inl rfl) (sub_c (Or.inl rfl) (sub_c (Or.inr rfl) (sub_c (Or.inl rfl) sub_n)))) h
    · replace h := h.2 hc
      refine g_iload_n (i := 2) dX1_figures_14 rfl rfl ?_
      refine g_bipush (v := (10 : Int32)) dX1_figures_15 (by decide) ?_
      refine g_imul dX1_figures_17 ?_
      refine g_aload_n (i := 0) dX1_figures_18 rfl rfl ?_
      refine gf_RX1_9 rfl dX1_figures_19 sh_99 ?_
      refine g_iload_n (i := 3) dX1_figures_22 rfl rfl ?_
      have hv1 := h.1; replace h := h.2
      refine g_iald dX1_figures_23 sh_100 hv1 ?_
      refine g_iadd dX1_figures_24 ?_
      refine lv_nm (fun v1 hn1 => ?_) (x := ((l2 * (10 : Int32)) + (M 100 (l3).toNatClampNeg)))
      replace h := h v1 hn1
      refine g_istore_n (i := 2) (L' := [.ref 99, .int l1, .int v1, .int l3]) dX1_figures_25 rfl (Nat.le_of_ble_eq_true rfl) rfl rfl ?_
      refine g_iinc (v := (l3 + 1)) (L' := [.ref 99, .int l1, .int v1, .int (l3 + 1)]) dX1_figures_26 rfl rfl (Nat.le_of_ble_eq_true rfl) rfl rfl ?_
      refine g_goto (tgt := 4) dX1_figures_29 rfl ?_
      exact h
theorem bX1_figures_32 {κ : gK} {M : MM} {Q : Int32 → MM → Prop} (l2 : Int32)
    (h : Q l2 M) :
    G κ mX1_figures 32 [.null, .null, .int l2, .null] [] M Q := by
  refine g_iload_n (i := 2) dX1_figures_32 rfl rfl ?_
  exact g_iret dX1_figures_33 rfl h
theorem eX1_figures {κ : gK} {M : MM} {Q : Int32 → MM → Prop} (l1 : Int32)
    (h : G κ mX1_figures 0 [.ref 99, .int l1, .null, .null] [] M Q) : Cl κ mX1_figures [.ref 99, .int l1] M Q := g_entry 2 pl_X1_figures (Nat.le_of_ble_eq_true rfl) (L := [.ref 99, .int l1, .null, .null]) rfl (g_sub _ (sub_c (Or.inr rfl) (sub_c (Or.inr rfl) (sub_c (Or.inr rfl) (sub_c (Or.inr rfl) sub_n)))) h)
theorem dX1_fillBehind_0 : decode cX1_fillBehind 0 = .ok (.iconst 0, 1) := by decide +kernel
theorem dX1_fillBehind_1 : decode cX1_fillBehind 1 = .ok (.istore_n 3, 1) := by decide +kernel
theorem dX1_fillBehind_2 : decode cX1_fillBehind 2 = .ok (.iload_n 3, 1) := by decide +kernel
theorem dX1_fillBehind_3 : decode cX1_fillBehind 3 = .ok (.bipush 8, 2) := by decide +kernel
theorem dX1_fillBehind_5 : decode cX1_fillBehind 5 = .ok (.if_icmp .ge 65, 3) := by decide +kernel
theorem dX1_fillBehind_8 : decode cX1_fillBehind 8 = .ok (.aload_n 2, 1) := by decide +kernel
theorem dX1_fillBehind_9 : decode cX1_fillBehind 9 = .ok (.getfield 26, 3) := by decide +kernel
theorem dX1_fillBehind_12 : decode cX1_fillBehind 12 = .ok (.iload_n 3, 1) := by decide +kernel
theorem dX1_fillBehind_13 : decode cX1_fillBehind 13 = .ok (.iaload, 1) := by decide +kernel
theorem dX1_fillBehind_14 : decode cX1_fillBehind 14 = .ok (.istore 4, 2) := by decide +kernel
theorem dX1_fillBehind_16 : decode cX1_fillBehind 16 = .ok (.iconst 0, 1) := by decide +kernel
theorem dX1_fillBehind_17 : decode cX1_fillBehind 17 = .ok (.istore 5, 2) := by decide +kernel
theorem dX1_fillBehind_19 : decode cX1_fillBehind 19 = .ok (.iload 5, 2) := by decide +kernel
theorem dX1_fillBehind_21 : decode cX1_fillBehind 21 = .ok (.bipush 6, 2) := by decide +kernel
theorem dX1_fillBehind_23 : decode cX1_fillBehind 23 = .ok (.if_icmp .ge 41, 3) := by decide +kernel
theorem dX1_fillBehind_26 : decode cX1_fillBehind 26 = .ok (.aload_n 0, 1) := by decide +kernel
theorem dX1_fillBehind_27 : decode cX1_fillBehind 27 = .ok (.getfield 15, 3) := by decide +kernel
theorem dX1_fillBehind_30 : decode cX1_fillBehind 30 = .ok (.iload_n 3, 1) := by decide +kernel
theorem dX1_fillBehind_31 : decode cX1_fillBehind 31 = .ok (.bipush 6, 2) := by decide +kernel
theorem dX1_fillBehind_33 : decode cX1_fillBehind 33 = .ok (.imul, 1) := by decide +kernel
theorem dX1_fillBehind_34 : decode cX1_fillBehind 34 = .ok (.iload 5, 2) := by decide +kernel
theorem dX1_fillBehind_36 : decode cX1_fillBehind 36 = .ok (.iadd, 1) := by decide +kernel
theorem dX1_fillBehind_37 : decode cX1_fillBehind 37 = .ok (.iload 4, 2) := by decide +kernel
theorem dX1_fillBehind_39 : decode cX1_fillBehind 39 = .ok (.iastore, 1) := by decide +kernel
theorem dX1_fillBehind_40 : decode cX1_fillBehind 40 = .ok (.aload_n 1, 1) := by decide +kernel
theorem dX1_fillBehind_41 : decode cX1_fillBehind 41 = .ok (.aload_n 1, 1) := by decide +kernel
theorem dX1_fillBehind_42 : decode cX1_fillBehind 42 = .ok (.getfield 31, 3) := by decide +kernel
theorem dX1_fillBehind_45 : decode cX1_fillBehind 45 = .ok (.iload_n 3, 1) := by decide +kernel
theorem dX1_fillBehind_46 : decode cX1_fillBehind 46 = .ok (.iaload, 1) := by decide +kernel
theorem dX1_fillBehind_47 : decode cX1_fillBehind 47 = .ok (.iload 4, 2) := by decide +kernel
theorem dX1_fillBehind_49 : decode cX1_fillBehind 49 = .ok (.aload_n 2, 1) := by decide +kernel
theorem dX1_fillBehind_50 : decode cX1_fillBehind 50 = .ok (.getfield 36, 3) := by decide +kernel
theorem dX1_fillBehind_53 : decode cX1_fillBehind 53 = .ok (.invokevirtual 40, 3) := by decide +kernel
theorem dX1_fillBehind_56 : decode cX1_fillBehind 56 = .ok (.istore 4, 2) := by decide +kernel
theorem dX1_fillBehind_58 : decode cX1_fillBehind 58 = .ok (.iinc 5 1, 3) := by decide +kernel
theorem dX1_fillBehind_61 : decode cX1_fillBehind 61 = .ok (.goto (-42), 3) := by decide +kernel
theorem dX1_fillBehind_64 : decode cX1_fillBehind 64 = .ok (.iinc 3 1, 3) := by decide +kernel
theorem dX1_fillBehind_67 : decode cX1_fillBehind 67 = .ok (.goto (-65), 3) := by decide +kernel
theorem dX1_fillBehind_70 : decode cX1_fillBehind 70 = .ok (.return_, 1) := by decide +kernel
theorem bX1_fillBehind_0 {κ : gK} {M : MM} {Q : Int32 → MM → Prop} (o1 : Nat) (o2 : Nat) (ho1 : twO o1) (ho2 : stO o2)
    (h : G κ mX1_fillBehind 2 [.ref 99, .ref o1, .ref o2, .int (0 : Int32), .null, .null] [] M Q) :
    G κ mX1_fillBehind 0 [.ref 99, .ref o1, .ref o2, .null, .null, .null] [] M Q := by
  refine g_iconst (v := (0 : Int32)) dX1_fillBehind_0 (by decide) ?_
  refine g_istore_n (i := 3) (L' := [.ref 99, .ref o1, .ref o2, .int (0 : Int32), .null, .null]) dX1_fillBehind_1 rfl (Nat.le_of_ble_eq_true rfl) rfl rfl ?_
  exact h
theorem bX1_fillBehind_2 {κ : gK} {M : MM} {Q : Int32 → MM → Prop} (o1 : Nat) (o2 : Nat) (ho1 : twO o1) (ho2 : stO o2) (l3 : Int32)
    (h : (((8 : Int32) ≤ l3 → Q 0 M) ∧ (¬ (8 : Int32) ≤ l3 → (vp_in l3 8) ∧ (∀ v1 : Int32, v1 = (M (o2 + 1) (l3).toNatClampNeg) → (G κ mX1_fillBehind 19 [.ref 99, .ref o1, .ref o2, .int l3, .int v1, .int (0 : Int32)] [] M Q))))) :
    G κ mX1_fillBehind 2 [.ref 99, .ref o1, .ref o2, .int l3, .null, .null] [] M Q := by
  refine g_iload_n (i := 3) dX1_fillBehind_2 rfl rfl ?_
  refine g_bipush (v := (8 : Int32)) dX1_fillBehind_3 (by decide) ?_
  refine g_icmp_ge (tgt := 70) dX1_fillBehind_5 rfl ⟨fun hc => ?_, fun hc => ?_⟩
  · replace h := h.1 hc
    exact g_vret dX1_fillBehind_70 rfl h
  · replace h := h.2 hc
    refine g_aload_n (i := 2) dX1_fillBehind_8 rfl rfl ?_
    refine gf_RX1_26 rfl dX1_fillBehind_9 ho2.1 ?_
    refine g_iload_n (i := 3) dX1_fillBehind_12 rfl rfl ?_
    have hv1 := h.1; replace h := h.2
    refine g_iald dX1_fillBehind_13 ho2.2.1 hv1 ?_
    refine lv_nm (fun v1 hn1 => ?_) (x := (M (o2 + 1) (l3).toNatClampNeg))
    replace h := h v1 hn1
    refine g_istore (i := 4) (L' := [.ref 99, .ref o1, .ref o2, .int l3, .int v1, .null]) dX1_fillBehind_14 (Nat.le_of_ble_eq_true rfl) rfl rfl ?_
    refine g_iconst (v := (0 : Int32)) dX1_fillBehind_16 (by decide) ?_
    refine g_istore (i := 5) (L' := [.ref 99, .ref o1, .ref o2, .int l3, .int v1, .int (0 : Int32)]) dX1_fillBehind_17 (Nat.le_of_ble_eq_true rfl) rfl rfl ?_
    exact h
theorem bX1_fillBehind_19 {κ : gK} {M : MM} {Q : Int32 → MM → Prop} (o1 : Nat) (o2 : Nat) (ho1 : twO o1) (ho2 : stO o2) (l3 : Int32) (l4 : Int32) (l5 : Int32)
    (h : (((6 : Int32) ≤ l5 → G κ mX1_fillBehind 2 [.ref 99, .ref o1, .ref o2, .int (l3 + 1), .null, .null] [] M Q) ∧ (¬ (6 : Int32) ≤ l5 → (vp_in ((l3 * (6 : Int32)) + l5) 48) ∧ (∀ M1 : MM, M1 = (pt M 101 (((l3 * (6 : Int32)) + l5)).toNatClampNeg l4) → ((vp_in l3 8) ∧ (Cl κ mX9_behindCrow [.ref o1, .int (M1 (o1 + 1) (l3).toNatClampNeg), .int l4, .int (M1 o2 3)] M1 (fun r2 M2 => G κ mX1_fillBehind 19 [.ref 99, .ref o1, .ref o2, .int l3, .int r2, .int (l5 + 1)] [] M2 Q))))))) :
    G κ mX1_fillBehind 19 [.ref 99, .ref o1, .ref o2, .int l3, .int l4, .int l5] [] M Q := by
  refine g_iload (i := 5) dX1_fillBehind_19 rfl ?_
  refine g_bipush (v := (6 : Int32)) dX1_fillBehind_21 (by decide) ?_
  refine g_icmp_ge (tgt := 64) dX1_fillBehind_23 rfl ⟨fun hc => ?_, fun hc => ?_⟩
  · replace h := h.1 hc
    refine g_iinc (v := (l3 + 1)) (L' := [.ref 99, .ref o1, .ref o2, .int (l3 + 1), .int l4, .int l5]) dX1_fillBehind_64 rfl rfl (Nat.le_of_ble_eq_true rfl) rfl rfl ?_
    refine g_goto (tgt := 2) dX1_fillBehind_67 rfl ?_
    exact g_sub _ (sub_c (Or.inr rfl) (sub_c (Or.inr rfl) (sub_c (Or.inr rfl) (sub_c (Or.inr rfl) (sub_c (Or.inl rfl) (sub_c (Or.inl rfl) sub_n)))))) h
  · replace h := h.2 hc
    refine g_aload_n (i := 0) dX1_fillBehind_26 rfl rfl ?_
    refine gf_RX1_15 rfl dX1_fillBehind_27 sh_99 ?_
    refine g_iload_n (i := 3) dX1_fillBehind_30 rfl rfl ?_
    refine g_bipush (v := (6 : Int32)) dX1_fillBehind_31 (by decide) ?_
    refine g_imul dX1_fillBehind_33 ?_
    refine g_iload (i := 5) dX1_fillBehind_34 rfl ?_
    refine g_iadd dX1_fillBehind_36 ?_
    refine g_iload (i := 4) dX1_fillBehind_37 rfl ?_
    have hv1 := h.1; replace h := h.2
    refine g_iastP dX1_fillBehind_39 sh_101 hv1 ?_
    refine g_nmM (fun M1 hM1 => ?_); replace h := h M1 hM1
    refine g_aload_n (i := 1) dX1_fillBehind_40 rfl rfl ?_
    refine g_aload_n (i := 1) dX1_fillBehind_41 rfl rfl ?_
    refine gf_RX1_31 rfl dX1_fillBehind_42 ho1.1 ?_
    refine g_iload_n (i := 3) dX1_fillBehind_45 rfl rfl ?_
    have hv2 := h.1; replace h := h.2
    refine g_iald dX1_fillBehind_46 ho1.2.1 hv2 ?_
    refine g_iload (i := 4) dX1_fillBehind_47 rfl ?_
    refine g_aload_n (i := 2) dX1_fillBehind_49 rfl rfl ?_
    refine gf_RX1_36 rfl dX1_fillBehind_50 ho2.1 ?_
    refine gc_RX1_40 rfl (Nat.le_of_ble_eq_true rfl) dX1_fillBehind_53 ho1.1 (Nat.le_of_ble_eq_true rfl) ?_
    refine Cl.mono h (fun r2 M2 h => ?_)
    refine g_istore (i := 4) (L' := [.ref 99, .ref o1, .ref o2, .int l3, .int r2, .int l5]) dX1_fillBehind_56 (Nat.le_of_ble_eq_true rfl) rfl rfl ?_
    refine g_iinc (v := (l5 + 1)) (L' := [.ref 99, .ref o1, .ref o2, .int l3, .int r2, .int (l5 + 1)]) dX1_fillBehind_58 rfl rfl (Nat.le_of_ble_eq_true rfl) rfl rfl ?_
    refine g_goto (tgt := 19) dX1_fillBehind_61 rfl ?_
    exact h
theorem eX1_fillBehind {κ : gK} {M : MM} {Q : Int32 → MM → Prop} (o1 : Nat) (o2 : Nat)
    (h : G κ mX1_fillBehind 0 [.ref 99, .ref o1, .ref o2, .null, .null, .null] [] M Q) : Cl κ mX1_fillBehind [.ref 99, .ref o1, .ref o2] M Q := g_entry 3 pl_X1_fillBehind (Nat.le_of_ble_eq_true rfl) (L := [.ref 99, .ref o1, .ref o2, .null, .null, .null]) rfl (g_sub _ (sub_c (Or.inr rfl) (sub_c (Or.inr rfl) (sub_c (Or.inr rfl) (sub_c (Or.inr rfl) (sub_c (Or.inr rfl) (sub_c (Or.inr rfl) sub_n)))))) h)
theorem dX1_findLights_0 : decode cX1_findLights 0 = .ok (.iconst 0, 1) := by decide +kernel
theorem dX1_findLights_1 : decode cX1_findLights 1 = .ok (.istore 4, 2) := by decide +kernel
theorem dX1_findLights_3 : decode cX1_findLights 3 = .ok (.iload 4, 2) := by decide +kernel
theorem dX1_findLights_5 : decode cX1_findLights 5 = .ok (.iload_n 3, 1) := by decide +kernel
theorem dX1_findLights_6 : decode cX1_findLights 6 = .ok (.if_icmp .ge 17, 3) := by decide +kernel
theorem dX1_findLights_9 : decode cX1_findLights 9 = .ok (.aload_n 0, 1) := by decide +kernel
theorem dX1_findLights_10 : decode cX1_findLights 10 = .ok (.getfield 9, 3) := by decide +kernel
theorem dX1_findLights_13 : decode cX1_findLights 13 = .ok (.iload 4, 2) := by decide +kernel
theorem dX1_findLights_15 : decode cX1_findLights 15 = .ok (.iconst 1, 1) := by decide +kernel
theorem dX1_findLights_16 : decode cX1_findLights 16 = .ok (.iastore, 1) := by decide +kernel
theorem dX1_findLights_17 : decode cX1_findLights 17 = .ok (.iinc 4 1, 3) := by decide +kernel
theorem dX1_findLights_20 : decode cX1_findLights 20 = .ok (.goto (-17), 3) := by decide +kernel
theorem dX1_findLights_23 : decode cX1_findLights 23 = .ok (.iconst 0, 1) := by decide +kernel
theorem dX1_findLights_24 : decode cX1_findLights 24 = .ok (.istore 4, 2) := by decide +kernel
theorem dX1_findLights_26 : decode cX1_findLights 26 = .ok (.iload 4, 2) := by decide +kernel
theorem dX1_findLights_28 : decode cX1_findLights 28 = .ok (.sipush 10000, 3) := by decide +kernel
theorem dX1_findLights_31 : decode cX1_findLights 31 = .ok (.if_icmp .ge 31, 3) := by decide +kernel
theorem dX1_findLights_34 : decode cX1_findLights 34 = .ok (.aload_n 0, 1) := by decide +kernel
theorem dX1_findLights_35 : decode cX1_findLights 35 = .ok (.aload_n 1, 1) := by decide +kernel
theorem dX1_findLights_36 : decode cX1_findLights 36 = .ok (.iload_n 2, 1) := by decide +kernel
theorem dX1_findLights_37 : decode cX1_findLights 37 = .ok (.iload_n 3, 1) := by decide +kernel
theorem dX1_findLights_38 : decode cX1_findLights 38 = .ok (.invokevirtual 44, 3) := by decide +kernel
theorem dX1_findLights_41 : decode cX1_findLights 41 = .ok (.ifCond .eq 5, 3) := by decide +kernel
theorem dX1_findLights_44 : decode cX1_findLights 44 = .ok (.iconst 1, 1) := by decide +kernel
theorem dX1_findLights_45 : decode cX1_findLights 45 = .ok (.ireturn, 1) := by decide +kernel
theorem dX1_findLights_46 : decode cX1_findLights 46 = .ok (.aload_n 0, 1) := by decide +kernel
theorem dX1_findLights_47 : decode cX1_findLights 47 = .ok (.iload_n 3, 1) := by decide +kernel
theorem dX1_findLights_48 : decode cX1_findLights 48 = .ok (.invokevirtual 47, 3) := by decide +kernel
theorem dX1_findLights_51 : decode cX1_findLights 51 = .ok (.ifCond .ne 5, 3) := by decide +kernel
theorem dX1_findLights_54 : decode cX1_findLights 54 = .ok (.iconst 0, 1) := by decide +kernel
theorem dX1_findLights_55 : decode cX1_findLights 55 = .ok (.ireturn, 1) := by decide +kernel
theorem dX1_findLights_56 : decode cX1_findLights 56 = .ok (.iinc 4 1, 3) := by decide +kernel
theorem dX1_findLights_59 : decode cX1_findLights 59 = .ok (.goto (-33), 3) := by decide +kernel
theorem dX1_findLights_62 : decode cX1_findLights 62 = .ok (.iconst 0, 1) := by decide +kernel
theorem dX1_findLights_63 : decode cX1_findLights 63 = .ok (.ireturn, 1) := by decide +kernel
theorem bX1_findLights_0 {κ : gK} {M : MM} {Q : Int32 → MM → Prop} (o1 : Nat) (ho1 : stO o1) (l2 : Int32) (l3 : Int32)
    (h : G κ mX1_findLights 3 [.ref 99, .ref o1, .int l2, .int l3, .int (0 : Int32)] [] M Q) :
    G κ mX1_findLights 0 [.ref 99, .ref o1, .int l2, .int l3, .null] [] M Q := by
  refine g_iconst (v := (0 : Int32)) dX1_findLights_0 (by decide) ?_
  refine g_istore (i := 4) (L' := [.ref 99, .ref o1, .int l2, .int l3, .int (0 : Int32)]) dX1_findLights_1 (Nat.le_of_ble_eq_true rfl) rfl rfl ?_
  exact h
theorem bX1_findLights_3 {κ : gK} {M : MM} {Q : Int32 → MM → Prop} (o1 : Nat) (ho1 : stO o1) (l2 : Int32) (l3 : Int32) (l4 : Int32)
    (h : ((l3 ≤ l4 → G κ mX1_findLights 26 [.ref 99, .ref o1, .int l2, .int l3, .int (0 : Int32)] [] M Q) ∧ (¬ l3 ≤ l4 → (vp_in l4 5) ∧ (∀ M1 : MM, M1 = (pt M 100 (l4).toNatClampNeg (1 : Int32)) → (G κ mX1_findLights 3 [.ref 99, .ref o1, .int l2, .int l3, .int (l4 + 1)] [] M1 Q))))) :
    G κ mX1_findLights 3 [.ref 99, .ref o1, .int l2, .int l3, .int l4] [] M Q := by
  refine g_iload (i := 4) dX1_findLights_3 rfl ?_
  refine g_iload_n (i := 3) dX1_findLights_5 rfl rfl ?_
  refine g_icmp_ge (tgt := 23) dX1_findLights_6 rfl ⟨fun hc => ?_, fun hc => ?_⟩
  · replace h := h.1 hc
    refine g_iconst (v := (0 : Int32)) dX1_findLights_23 (by decide) ?_
    refine g_istore (i := 4) (L' := [.ref 99, .ref o1, .int l2, .int l3, .int (0 : Int32)]) dX1_findLights_24 (Nat.le_of_ble_eq_true rfl) rfl rfl ?_
    exact h
  · replace h := h.2 hc
    refine g_aload_n (i := 0) dX1_findLights_9 rfl rfl ?_
    refine gf_RX1_9 rfl dX1_findLights_10 sh_99 ?_
    refine g_iload (i := 4) dX1_findLights_13 rfl ?_
    refine g_iconst (v := (1 : Int32)) dX1_findLights_15 (by decide) ?_
    have hv1 := h.1; replace h := h.2
    refine g_iastP dX1_findLights_16 sh_100 hv1 ?_
    refine g_nmM (fun M1 hM1 => ?_); replace h := h M1 hM1
    refine g_iinc (v := (l4 + 1)) (L' := [.ref 99, .ref o1, .int l2, .int l3, .int (l4 + 1)]) dX1_findLights_17 rfl rfl (Nat.le_of_ble_eq_true rfl) rfl rfl ?_
    refine g_goto (tgt := 3) dX1_findLights_20 rfl ?_
    exact h
theorem bX1_findLights_26 {κ : gK} {M : MM} {Q : Int32 → MM → Prop} (o1 : Nat) (ho1 : stO o1) (l2 : Int32) (l3 : Int32) (l4 : Int32)
    (h : (((10000 : Int32) ≤ l4 → Q (0 : Int32) M) ∧ (¬ (10000 : Int32) ≤ l4 → Cl κ mX1_bringTogether [.ref 99, .ref o1, .int l2, .int l3] M (fun r1 M1 => ((r1 = 0 → Cl κ mX1_nextLights [.ref 99, .int l3] M1 (fun r2 M2 => ((r2 = 0 → Q (0 : Int32) M2) ∧ (¬ r2 = 0 → G κ mX1_findLights 26 [.ref 99, .ref o1, .int l2, .int l3, .int (l4 + 1)] [] M2 Q)))) ∧ (¬ r1 = 0 → Q (1 : Int32) M1)))))) :
    G κ mX1_findLights 26 [.ref 99, .ref o1, .int l2, .int l3, .int l4] [] M Q := by
  refine g_iload (i := 4) dX1_findLights_26 rfl ?_
  refine g_sipush (v := (10000 : Int32)) dX1_findLights_28 (by decide) ?_
  refine g_icmp_ge (tgt := 62) dX1_findLights_31 rfl ⟨fun hc => ?_, fun hc => ?_⟩
  · replace h := h.1 hc
    refine g_iconst (v := (0 : Int32)) dX1_findLights_62 (by decide) ?_
    exact g_zret dX1_findLights_63 rfl rfl h
  · replace h := h.2 hc
    refine g_aload_n (i := 0) dX1_findLights_34 rfl rfl ?_
    refine g_aload_n (i := 1) dX1_findLights_35 rfl rfl ?_
    refine g_iload_n (i := 2) dX1_findLights_36 rfl rfl ?_
    refine g_iload_n (i := 3) dX1_findLights_37 rfl rfl ?_
    refine gc_RX1_44 rfl (Nat.le_of_ble_eq_true rfl) dX1_findLights_38 sh_99 (Nat.le_of_ble_eq_true rfl) ?_
    refine Cl.mono h (fun r1 M1 h => ?_)
    refine g_if_eq (tgt := 46) dX1_findLights_41 rfl ⟨fun hc => ?_, fun hc => ?_⟩
    · replace h := h.1 hc
      refine g_aload_n (i := 0) dX1_findLights_46 rfl rfl ?_
      refine g_iload_n (i := 3) dX1_findLights_47 rfl rfl ?_
      refine gc_RX1_47 rfl (Nat.le_of_ble_eq_true rfl) dX1_findLights_48 sh_99 (Nat.le_of_ble_eq_true rfl) ?_
      refine Cl.mono h (fun r2 M2 h => ?_)
      refine g_if_ne (tgt := 56) dX1_findLights_51 rfl ⟨fun hc => ?_, fun hc => ?_⟩
      · replace h := h.1 hc
        refine g_iconst (v := (0 : Int32)) dX1_findLights_54 (by decide) ?_
        exact g_zret dX1_findLights_55 rfl rfl h
      · replace h := h.2 hc
        refine g_iinc (v := (l4 + 1)) (L' := [.ref 99, .ref o1, .int l2, .int l3, .int (l4 + 1)]) dX1_findLights_56 rfl rfl (Nat.le_of_ble_eq_true rfl) rfl rfl ?_
        refine g_goto (tgt := 26) dX1_findLights_59 rfl ?_
        exact h
    · replace h := h.2 hc
      refine g_iconst (v := (1 : Int32)) dX1_findLights_44 (by decide) ?_
      exact g_zret dX1_findLights_45 rfl rfl h
theorem eX1_findLights {κ : gK} {M : MM} {Q : Int32 → MM → Prop} (o1 : Nat) (l2 : Int32) (l3 : Int32)
    (h : G κ mX1_findLights 0 [.ref 99, .ref o1, .int l2, .int l3, .null] [] M Q) : Cl κ mX1_findLights [.ref 99, .ref o1, .int l2, .int l3] M Q := g_entry 1 pl_X1_findLights (Nat.le_of_ble_eq_true rfl) (L := [.ref 99, .ref o1, .int l2, .int l3, .null]) rfl (g_sub _ (sub_c (Or.inr rfl) (sub_c (Or.inr rfl) (sub_c (Or.inr rfl) (sub_c (Or.inr rfl) (sub_c (Or.inr rfl) sub_n))))) h)
theorem dX1_bringTogether_0 : decode cX1_bringTogether 0 = .ok (.sipush 511, 3) := by decide +kernel
theorem dX1_bringTogether_3 : decode cX1_bringTogether 3 = .ok (.istore 4, 2) := by decide +kernel
theorem dX1_bringTogether_5 : decode cX1_bringTogether 5 = .ok (.iconst 0, 1) := by decide +kernel
theorem dX1_bringTogether_6 : decode cX1_bringTogether 6 = .ok (.istore 5, 2) := by decide +kernel
theorem dX1_bringTogether_8 : decode cX1_bringTogether 8 = .ok (.iload 5, 2) := by decide +kernel
theorem dX1_bringTogether_10 : decode cX1_bringTogether 10 = .ok (.bipush 8, 2) := by decide +kernel
theorem dX1_bringTogether_12 : decode cX1_bringTogether 12 = .ok (.if_icmp .ge 51, 3) := by decide +kernel
theorem dX1_bringTogether_15 : decode cX1_bringTogether 15 = .ok (.iload 4, 2) := by decide +kernel
theorem dX1_bringTogether_17 : decode cX1_bringTogether 17 = .ok (.ifCond .eq 46, 3) := by decide +kernel
theorem dX1_bringTogether_20 : decode cX1_bringTogether 20 = .ok (.iload_n 2, 1) := by decide +kernel
theorem dX1_bringTogether_21 : decode cX1_bringTogether 21 = .ok (.iconst 1, 1) := by decide +kernel
theorem dX1_bringTogether_22 : decode cX1_bringTogether 22 = .ok (.iload 5, 2) := by decide +kernel
theorem dX1_bringTogether_24 : decode cX1_bringTogether 24 = .ok (.ishl, 1) := by decide +kernel
theorem dX1_bringTogether_25 : decode cX1_bringTogether 25 = .ok (.iand, 1) := by decide +kernel
theorem dX1_bringTogether_26 : decode cX1_bringTogether 26 = .ok (.ifCond .eq 31, 3) := by decide +kernel
theorem dX1_bringTogether_29 : decode cX1_bringTogether 29 = .ok (.iload 4, 2) := by decide +kernel
theorem dX1_bringTogether_31 : decode cX1_bringTogether 31 = .ok (.aload_n 0, 1) := by decide +kernel
theorem dX1_bringTogether_32 : decode cX1_bringTogether 32 = .ok (.getfield 15, 3) := by decide +kernel
theorem dX1_bringTogether_35 : decode cX1_bringTogether 35 = .ok (.iload 5, 2) := by decide +kernel
theorem dX1_bringTogether_37 : decode cX1_bringTogether 37 = .ok (.bipush 6, 2) := by decide +kernel
theorem dX1_bringTogether_39 : decode cX1_bringTogether 39 = .ok (.imul, 1) := by decide +kernel
theorem dX1_bringTogether_40 : decode cX1_bringTogether 40 = .ok (.aload_n 0, 1) := by decide +kernel
theorem dX1_bringTogether_41 : decode cX1_bringTogether 41 = .ok (.aload_n 1, 1) := by decide +kernel
theorem dX1_bringTogether_42 : decode cX1_bringTogether 42 = .ok (.getfield 51, 3) := by decide +kernel
theorem dX1_bringTogether_45 : decode cX1_bringTogether 45 = .ok (.iload 5, 2) := by decide +kernel
theorem dX1_bringTogether_47 : decode cX1_bringTogether 47 = .ok (.iaload, 1) := by decide +kernel
theorem dX1_bringTogether_48 : decode cX1_bringTogether 48 = .ok (.iload_n 3, 1) := by decide +kernel
theorem dX1_bringTogether_49 : decode cX1_bringTogether 49 = .ok (.invokevirtual 54, 3) := by decide +kernel
theorem dX1_bringTogether_52 : decode cX1_bringTogether 52 = .ok (.iadd, 1) := by decide +kernel
theorem dX1_bringTogether_53 : decode cX1_bringTogether 53 = .ok (.iaload, 1) := by decide +kernel
theorem dX1_bringTogether_54 : decode cX1_bringTogether 54 = .ok (.iand, 1) := by decide +kernel
theorem dX1_bringTogether_55 : decode cX1_bringTogether 55 = .ok (.istore 4, 2) := by decide +kernel
theorem dX1_bringTogether_57 : decode cX1_bringTogether 57 = .ok (.iinc 5 1, 3) := by decide +kernel
theorem dX1_bringTogether_60 : decode cX1_bringTogether 60 = .ok (.goto (-52), 3) := by decide +kernel
theorem dX1_bringTogether_63 : decode cX1_bringTogether 63 = .ok (.iload 4, 2) := by decide +kernel
theorem dX1_bringTogether_65 : decode cX1_bringTogether 65 = .ok (.ifCond .eq 7, 3) := by decide +kernel
theorem dX1_bringTogether_68 : decode cX1_bringTogether 68 = .ok (.iconst 1, 1) := by decide +kernel
theorem dX1_bringTogether_69 : decode cX1_bringTogether 69 = .ok (.goto 4, 3) := by decide +kernel
theorem dX1_bringTogether_72 : decode cX1_bringTogether 72 = .ok (.iconst 0, 1) := by decide +kernel
theorem dX1_bringTogether_73 : decode cX1_bringTogether 73 = .ok (.ireturn, 1) := by decide +kernel
theorem bX1_bringTogether_0 {κ : gK} {M : MM} {Q : Int32 → MM → Prop} (o1 : Nat) (ho1 : stO o1) (l2 : Int32) (l3 : Int32)
    (h : G κ mX1_bringTogether 8 [.ref 99, .ref o1, .int l2, .int l3, .int (511 : Int32), .int (0 : Int32)] [] M Q) :
    G κ mX1_bringTogether 0 [.ref 99, .ref o1, .int l2, .int l3, .null, .null] [] M Q := by
  refine g_sipush (v := (511 : Int32)) dX1_bringTogether_0 (by decide) ?_
  refine g_istore (i := 4) (L' := [.ref 99, .ref o1, .int l2, .int l3, .int (511 : Int32), .null]) dX1_bringTogether_3 (Nat.le_of_ble_eq_true rfl) rfl rfl ?_
  refine g_iconst (v := (0 : Int32)) dX1_bringTogether_5 (by decide) ?_
  refine g_istore (i := 5) (L' := [.ref 99, .ref o1, .int l2, .int l3, .int (511 : Int32), .int (0 : Int32)]) dX1_bringTogether_6 (Nat.le_of_ble_eq_true rfl) rfl rfl ?_
  exact h
theorem bX1_bringTogether_8 {κ : gK} {M : MM} {Q : Int32 → MM → Prop} (o1 : Nat) (ho1 : stO o1) (l2 : Int32) (l3 : Int32) (l4 : Int32) (l5 : Int32)
    (h : (((8 : Int32) ≤ l5 → G κ mX1_bringTogether 63 [.null, .null, .null, .null, .int l4, .null] [] M Q) ∧ (¬ (8 : Int32) ≤ l5 → ((l4 = 0 → G κ mX1_bringTogether 63 [.null, .null, .null, .null, .int l4, .null] [] M Q) ∧ (¬ l4 = 0 → (((l2 &&& (jshl (1 : Int32) l5)) = 0 → G κ mX1_bringTogether 57 [.ref 99, .ref o1, .int l2, .int l3, .int l4, .int l5] [] M Q) ∧ (¬ (l2 &&& (jshl (1 : Int32) l5)) = 0 → (vp_in l5 8) ∧ (Cl κ mX1_heardOf [.ref 99, .int (M (o1 + 2) (l5).toNatClampNeg), .int l3] M (fun r1 M1 => (vp_in ((l5 * (6 : Int32)) + r1) 48) ∧ (∀ v2 : Int32, v2 = (l4 &&& (M1 101 (((l5 * (6 : Int32)) + r1)).toNatClampNeg)) → (G κ mX1_bringTogether 57 [.ref 99, .ref o1, .int l2, .int l3, .int v2, .int l5] [] M1 Q))))))))))) :
    G κ mX1_bringTogether 8 [.ref 99, .ref o1, .int l2, .int l3, .int l4, .int l5] [] M Q := by
  refine g_iload (i := 5) dX1_bringTogether_8 rfl ?_
  refine g_bipush (v := (8 : Int32)) dX1_bringTogether_10 (by decide) ?_
  refine g_icmp_ge (tgt := 63) dX1_bringTogether_12 rfl ⟨fun hc => ?_, fun hc => ?_⟩
  · replace h := h.1 hc
    exact g_sub _ (sub_c (Or.inl rfl) (sub_c (Or.inl rfl) (sub_c (Or.inl rfl) (sub_c (Or.inl rfl) (sub_c (Or.inr rfl) (sub_c (Or.inl rfl) sub_n)))))) h
  · replace h := h.2 hc
    refine g_iload (i := 4) dX1_bringTogether_15 rfl ?_
    refine g_if_eq (tgt := 63) dX1_bringTogether_17 rfl ⟨fun hc => ?_, fun hc => ?_⟩
    · replace h := h.1 hc
      exact g_sub _ (sub_c (Or.inl rfl) (sub_c (Or.inl rfl) (sub_c (Or.inl rfl) (sub_c (Or.inl rfl) (sub_c (Or.inr rfl) (sub_c (Or.inl rfl) sub_n)))))) h
    · replace h := h.2 hc
      refine g_iload_n (i := 2) dX1_bringTogether_20 rfl rfl ?_
      refine g_iconst (v := (1 : Int32)) dX1_bringTogether_21 (by decide) ?_
      refine g_iload (i := 5) dX1_bringTogether_22 rfl ?_
      refine g_ishl dX1_bringTogether_24 ?_
      refine g_iand dX1_bringTogether_25 ?_
      refine g_if_eq (tgt := 57) dX1_bringTogether_26 rfl ⟨fun hc => ?_, fun hc => ?_⟩
      · replace h := h.1 hc
        exact h
      · replace h := h.2 hc
        refine g_iload (i := 4) dX1_bringTogether_29 rfl ?_
        refine g_aload_n (i := 0) dX1_bringTogether_31 rfl rfl ?_
        refine gf_RX1_15 rfl dX1_bringTogether_32 sh_99 ?_
        refine g_iload (i := 5) dX1_bringTogether_35 rfl ?_
        refine g_bipush (v := (6 : Int32)) dX1_bringTogether_37 (by decide) ?_
        refine g_imul dX1_bringTogether_39 ?_
        refine g_aload_n (i := 0) dX1_bringTogether_40 rfl rfl ?_
        refine g_aload_n (i := 1) dX1_bringTogether_41 rfl rfl ?_
        refine gf_RX1_51 rfl dX1_bringTogether_42 ho1.1 ?_
        refine g_iload (i := 5) dX1_bringTogether_45 rfl ?_
        have hv1 := h.1; replace h := h.2
        refine g_iald dX1_bringTogether_47 ho1.2.2.1 hv1 ?_
        refine g_iload_n (i := 3) dX1_bringTogether_48 rfl rfl ?_
        refine gc_RX1_54 rfl (Nat.le_of_ble_eq_true rfl) dX1_bringTogether_49 sh_99 (Nat.le_of_ble_eq_true rfl) ?_
        refine Cl.mono h (fun r1 M1 h => ?_)
        refine g_iadd dX1_bringTogether_52 ?_
        have hv2 := h.1; replace h := h.2
        refine g_iald dX1_bringTogether_53 sh_101 hv2 ?_
        refine g_iand dX1_bringTogether_54 ?_
        refine lv_nm (fun v2 hn2 => ?_) (x := (l4 &&& (M1 101 (((l5 * (6 : Int32)) + r1)).toNatClampNeg)))
        replace h := h v2 hn2
        refine g_istore (i := 4) (L' := [.ref 99, .ref o1, .int l2, .int l3, .int v2, .int l5]) dX1_bringTogether_55 (Nat.le_of_ble_eq_true rfl) rfl rfl ?_
        exact h
theorem bX1_bringTogether_57 {κ : gK} {M : MM} {Q : Int32 → MM → Prop} (o1 : Nat) (ho1 : stO o1) (l2 : Int32) (l3 : Int32) (l4 : Int32) (l5 : Int32)
    (h : G κ mX1_bringTogether 8 [.ref 99, .ref o1, .int l2, .int l3, .int l4, .int (l5 + 1)] [] M Q) :
    G κ mX1_bringTogether 57 [.ref 99, .ref o1, .int l2, .int l3, .int l4, .int l5] [] M Q := by
  refine g_iinc (v := (l5 + 1)) (L' := [.ref 99, .ref o1, .int l2, .int l3, .int l4, .int (l5 + 1)]) dX1_bringTogether_57 rfl rfl (Nat.le_of_ble_eq_true rfl) rfl rfl ?_
  refine g_goto (tgt := 8) dX1_bringTogether_60 rfl ?_
  exact h
theorem bX1_bringTogether_63 {κ : gK} {M : MM} {Q : Int32 → MM → Prop} (o1 : Nat) (ho1 : stO o1) (l4 : Int32)
    (h : ((l4 = 0 → G κ mX1_bringTogether 73 [.null, .null, .null, .null, .null, .null] [.int (0 : Int32)] M Q) ∧ (¬ l4 = 0 → G κ mX1_bringTogether 73 [.null, .null, .null, .null, .null, .null] [.int (1 : Int32)] M Q))) :
    G κ mX1_bringTogether 63 [.null, .null, .null, .null, .int l4, .null] [] M Q := by
  refine g_iload (i := 4) dX1_bringTogether_63 rfl ?_
  refine g_if_eq (tgt := 72) dX1_bringTogether_65 rfl ⟨fun hc => ?_, fun hc => ?_⟩
  · replace h := h.1 hc
    refine g_iconst (v := (0 : Int32)) dX1_bringTogether_72 (by decide) ?_
    exact g_sub _ (sub_c (Or.inr rfl) (sub_c (Or.inr rfl) (sub_c (Or.inr rfl) (sub_c (Or.inr rfl) (sub_c (Or.inl rfl) (sub_c (Or.inr rfl) sub_n)))))) h
  · replace h := h.2 hc
    refine g_iconst (v := (1 : Int32)) dX1_bringTogether_68 (by decide) ?_
    refine g_goto (tgt := 73) dX1_bringTogether_69 rfl ?_
    exact g_sub _ (sub_c (Or.inr rfl) (sub_c (Or.inr rfl) (sub_c (Or.inr rfl) (sub_c (Or.inr rfl) (sub_c (Or.inl rfl) (sub_c (Or.inr rfl) sub_n)))))) h
theorem bX1_bringTogether_73 {κ : gK} {M : MM} {Q : Int32 → MM → Prop} (o1 : Nat) (ho1 : stO o1) (s0 : Int32)
    (h : (isB s0 ∧ Q s0 M)) :
    G κ mX1_bringTogether 73 [.null, .null, .null, .null, .null, .null] [.int s0] M Q := by
  exact g_zret dX1_bringTogether_73 rfl (isB_n h.1) h.2
theorem eX1_bringTogether {κ : gK} {M : MM} {Q : Int32 → MM → Prop} (o1 : Nat) (l2 : Int32) (l3 : Int32)
    (h : G κ mX1_bringTogether 0 [.ref 99, .ref o1, .int l2, .int l3, .null, .null] [] M Q) : Cl κ mX1_bringTogether [.ref 99, .ref o1, .int l2, .int l3] M Q := g_entry 2 pl_X1_bringTogether (Nat.le_of_ble_eq_true rfl) (L := [.ref 99, .ref o1, .int l2, .int l3, .null, .null]) rfl (g_sub _ (sub_c (Or.inr rfl) (sub_c (Or.inr rfl) (sub_c (Or.inr rfl) (sub_c (Or.inr rfl) (sub_c (Or.inr rfl) (sub_c (Or.inr rfl) sub_n)))))) h)
theorem dX1_heardOf_0 : decode cX1_heardOf 0 = .ok (.iconst 0, 1) := by decide +kernel
theorem dX1_heardOf_1 : decode cX1_heardOf 1 = .ok (.istore_n 3, 1) := by decide +kernel
theorem dX1_heardOf_2 : decode cX1_heardOf 2 = .ok (.iconst 0, 1) := by decide +kernel
theorem dX1_heardOf_3 : decode cX1_heardOf 3 = .ok (.istore 4, 2) := by decide +kernel
theorem dX1_heardOf_5 : decode cX1_heardOf 5 = .ok (.iload 4, 2) := by decide +kernel
theorem dX1_heardOf_7 : decode cX1_heardOf 7 = .ok (.iload_n 2, 1) := by decide +kernel
theorem dX1_heardOf_8 : decode cX1_heardOf 8 = .ok (.if_icmp .ge 23, 3) := by decide +kernel
theorem dX1_heardOf_11 : decode cX1_heardOf 11 = .ok (.aload_n 0, 1) := by decide +kernel
theorem dX1_heardOf_12 : decode cX1_heardOf 12 = .ok (.getfield 9, 3) := by decide +kernel
theorem dX1_heardOf_15 : decode cX1_heardOf 15 = .ok (.iload 4, 2) := by decide +kernel
theorem dX1_heardOf_17 : decode cX1_heardOf 17 = .ok (.iaload, 1) := by decide +kernel
theorem dX1_heardOf_18 : decode cX1_heardOf 18 = .ok (.iload_n 1, 1) := by decide +kernel
theorem dX1_heardOf_19 : decode cX1_heardOf 19 = .ok (.if_icmp .gt 6, 3) := by decide +kernel
theorem dX1_heardOf_22 : decode cX1_heardOf 22 = .ok (.iinc 3 1, 3) := by decide +kernel
theorem dX1_heardOf_25 : decode cX1_heardOf 25 = .ok (.iinc 4 1, 3) := by decide +kernel
theorem dX1_heardOf_28 : decode cX1_heardOf 28 = .ok (.goto (-23), 3) := by decide +kernel
theorem dX1_heardOf_31 : decode cX1_heardOf 31 = .ok (.iload_n 3, 1) := by decide +kernel
theorem dX1_heardOf_32 : decode cX1_heardOf 32 = .ok (.ireturn, 1) := by decide +kernel
theorem bX1_heardOf_0 {κ : gK} {M : MM} {Q : Int32 → MM → Prop} (l1 : Int32) (l2 : Int32)
    (h : G κ mX1_heardOf 5 [.ref 99, .int l1, .int l2, .int (0 : Int32), .int (0 : Int32)] [] M Q) :
    G κ mX1_heardOf 0 [.ref 99, .int l1, .int l2, .null, .null] [] M Q := by
  refine g_iconst (v := (0 : Int32)) dX1_heardOf_0 (by decide) ?_
  refine g_istore_n (i := 3) (L' := [.ref 99, .int l1, .int l2, .int (0 : Int32), .null]) dX1_heardOf_1 rfl (Nat.le_of_ble_eq_true rfl) rfl rfl ?_
  refine g_iconst (v := (0 : Int32)) dX1_heardOf_2 (by decide) ?_
  refine g_istore (i := 4) (L' := [.ref 99, .int l1, .int l2, .int (0 : Int32), .int (0 : Int32)]) dX1_heardOf_3 (Nat.le_of_ble_eq_true rfl) rfl rfl ?_
  exact h
theorem bX1_heardOf_5 {κ : gK} {M : MM} {Q : Int32 → MM → Prop} (l1 : Int32) (l2 : Int32) (l3 : Int32) (l4 : Int32)
    (h : ((l2 ≤ l4 → Q l3 M) ∧ (¬ l2 ≤ l4 → (vp_in l4 5) ∧ (((l1 < (M 100 (l4).toNatClampNeg) → G κ mX1_heardOf 25 [.ref 99, .int l1, .int l2, .int l3, .int l4] [] M Q) ∧ (¬ l1 < (M 100 (l4).toNatClampNeg) → G κ mX1_heardOf 25 [.ref 99, .int l1, .int l2, .int (l3 + 1), .int l4] [] M Q)))))) :
    G κ mX1_heardOf 5 [.ref 99, .int l1, .int l2, .int l3, .int l4] [] M Q := by
  refine g_iload (i := 4) dX1_heardOf_5 rfl ?_
  refine g_iload_n (i := 2) dX1_heardOf_7 rfl rfl ?_
  refine g_icmp_ge (tgt := 31) dX1_heardOf_8 rfl ⟨fun hc => ?_, fun hc => ?_⟩
  · replace h := h.1 hc
    refine g_iload_n (i := 3) dX1_heardOf_31 rfl rfl ?_
    exact g_iret dX1_heardOf_32 rfl h
  · replace h := h.2 hc
    refine g_aload_n (i := 0) dX1_heardOf_11 rfl rfl ?_
    refine gf_RX1_9 rfl dX1_heardOf_12 sh_99 ?_
    refine g_iload (i := 4) dX1_heardOf_15 rfl ?_
    have hv1 := h.1; replace h := h.2
    refine g_iald dX1_heardOf_17 sh_100 hv1 ?_
    refine g_iload_n (i := 1) dX1_heardOf_18 rfl rfl ?_
    refine g_icmp_gt (tgt := 25) dX1_heardOf_19 rfl ⟨fun hc => ?_, fun hc => ?_⟩
    · replace h := h.1 hc
      exact h
    · replace h := h.2 hc
      refine g_iinc (v := (l3 + 1)) (L' := [.ref 99, .int l1, .int l2, .int (l3 + 1), .int l4]) dX1_heardOf_22 rfl rfl (Nat.le_of_ble_eq_true rfl) rfl rfl ?_
      exact h
theorem bX1_heardOf_25 {κ : gK} {M : MM} {Q : Int32 → MM → Prop} (l1 : Int32) (l2 : Int32) (l3 : Int32) (l4 : Int32)
    (h : G κ mX1_heardOf 5 [.ref 99, .int l1, .int l2, .int l3, .int (l4 + 1)] [] M Q) :
    G κ mX1_heardOf 25 [.ref 99, .int l1, .int l2, .int l3, .int l4] [] M Q := by
  refine g_iinc (v := (l4 + 1)) (L' := [.ref 99, .int l1, .int l2, .int l3, .int (l4 + 1)]) dX1_heardOf_25 rfl rfl (Nat.le_of_ble_eq_true rfl) rfl rfl ?_
  refine g_goto (tgt := 5) dX1_heardOf_28 rfl ?_
  exact h
theorem eX1_heardOf {κ : gK} {M : MM} {Q : Int32 → MM → Prop} (l1 : Int32) (l2 : Int32)
    (h : G κ mX1_heardOf 0 [.ref 99, .int l1, .int l2, .null, .null] [] M Q) : Cl κ mX1_heardOf [.ref 99, .int l1, .int l2] M Q := g_entry 2 pl_X1_heardOf (Nat.le_of_ble_eq_true rfl) (L := [.ref 99, .int l1, .int l2, .null, .null]) rfl (g_sub _ (sub_c (Or.inr rfl) (sub_c (Or.inr rfl) (sub_c (Or.inr rfl) (sub_c (Or.inr rfl) (sub_c (Or.inr rfl) sub_n))))) h)
theorem dX1_nextLights_0 : decode cX1_nextLights 0 = .ok (.iload_n 1, 1) := by decide +kernel
theorem dX1_nextLights_1 : decode cX1_nextLights 1 = .ok (.iconst 1, 1) := by decide +kernel
theorem dX1_nextLights_2 : decode cX1_nextLights 2 = .ok (.isub, 1) := by decide +kernel
theorem dX1_nextLights_3 : decode cX1_nextLights 3 = .ok (.istore_n 2, 1) := by decide +kernel
theorem dX1_nextLights_4 : decode cX1_nextLights 4 = .ok (.iload_n 2, 1) := by decide +kernel
theorem dX1_nextLights_5 : decode cX1_nextLights 5 = .ok (.ifCond .lt 54, 3) := by decide +kernel
theorem dX1_nextLights_8 : decode cX1_nextLights 8 = .ok (.aload_n 0, 1) := by decide +kernel
theorem dX1_nextLights_9 : decode cX1_nextLights 9 = .ok (.getfield 9, 3) := by decide +kernel
theorem dX1_nextLights_12 : decode cX1_nextLights 12 = .ok (.iload_n 2, 1) := by decide +kernel
theorem dX1_nextLights_13 : decode cX1_nextLights 13 = .ok (.iaload, 1) := by decide +kernel
theorem dX1_nextLights_14 : decode cX1_nextLights 14 = .ok (.bipush 9, 2) := by decide +kernel
theorem dX1_nextLights_16 : decode cX1_nextLights 16 = .ok (.if_icmp .ge 37, 3) := by decide +kernel
theorem dX1_nextLights_19 : decode cX1_nextLights 19 = .ok (.aload_n 0, 1) := by decide +kernel
theorem dX1_nextLights_20 : decode cX1_nextLights 20 = .ok (.getfield 9, 3) := by decide +kernel
theorem dX1_nextLights_23 : decode cX1_nextLights 23 = .ok (.iload_n 2, 1) := by decide +kernel
theorem dX1_nextLights_24 : decode cX1_nextLights 24 = .ok (.iaload, 1) := by decide +kernel
theorem dX1_nextLights_25 : decode cX1_nextLights 25 = .ok (.iconst 1, 1) := by decide +kernel
theorem dX1_nextLights_26 : decode cX1_nextLights 26 = .ok (.iadd, 1) := by decide +kernel
theorem dX1_nextLights_27 : decode cX1_nextLights 27 = .ok (.istore_n 3, 1) := by decide +kernel
theorem dX1_nextLights_28 : decode cX1_nextLights 28 = .ok (.iload_n 2, 1) := by decide +kernel
theorem dX1_nextLights_29 : decode cX1_nextLights 29 = .ok (.istore 4, 2) := by decide +kernel
theorem dX1_nextLights_31 : decode cX1_nextLights 31 = .ok (.iload 4, 2) := by decide +kernel
theorem dX1_nextLights_33 : decode cX1_nextLights 33 = .ok (.iload_n 1, 1) := by decide +kernel
theorem dX1_nextLights_34 : decode cX1_nextLights 34 = .ok (.if_icmp .ge 17, 3) := by decide +kernel
theorem dX1_nextLights_37 : decode cX1_nextLights 37 = .ok (.aload_n 0, 1) := by decide +kernel
theorem dX1_nextLights_38 : decode cX1_nextLights 38 = .ok (.getfield 9, 3) := by decide +kernel
theorem dX1_nextLights_41 : decode cX1_nextLights 41 = .ok (.iload 4, 2) := by decide +kernel
theorem dX1_nextLights_43 : decode cX1_nextLights 43 = .ok (.iload_n 3, 1) := by decide +kernel
theorem dX1_nextLights_44 : decode cX1_nextLights 44 = .ok (.iastore, 1) := by decide +kernel
theorem dX1_nextLights_45 : decode cX1_nextLights 45 = .ok (.iinc 4 1, 3) := by decide +kernel
theorem dX1_nextLights_48 : decode cX1_nextLights 48 = .ok (.goto (-17), 3) := by decide +kernel
theorem dX1_nextLights_51 : decode cX1_nextLights 51 = .ok (.iconst 1, 1) := by decide +kernel
theorem dX1_nextLights_52 : decode cX1_nextLights 52 = .ok (.ireturn, 1) := by decide +kernel
theorem dX1_nextLights_53 : decode cX1_nextLights 53 = .ok (.iinc 2 (-1), 3) := by decide +kernel
theorem dX1_nextLights_56 : decode cX1_nextLights 56 = .ok (.goto (-52), 3) := by decide +kernel
theorem dX1_nextLights_59 : decode cX1_nextLights 59 = .ok (.iconst 0, 1) := by decide +kernel
theorem dX1_nextLights_60 : decode cX1_nextLights 60 = .ok (.ireturn, 1) := by decide +kernel
theorem bX1_nextLights_0 {κ : gK} {M : MM} {Q : Int32 → MM → Prop} (l1 : Int32)
    (h : G κ mX1_nextLights 4 [.ref 99, .int l1, .int (l1 - (1 : Int32)), .null, .null] [] M Q) :
    G κ mX1_nextLights 0 [.ref 99, .int l1, .null, .null, .null] [] M Q := by
  refine g_iload_n (i := 1) dX1_nextLights_0 rfl rfl ?_
  refine g_iconst (v := (1 : Int32)) dX1_nextLights_1 (by decide) ?_
  refine g_isub dX1_nextLights_2 ?_
  refine g_istore_n (i := 2) (L' := [.ref 99, .int l1, .int (l1 - (1 : Int32)), .null, .null]) dX1_nextLights_3 rfl (Nat.le_of_ble_eq_true rfl) rfl rfl ?_
  exact h
theorem bX1_nextLights_4 {κ : gK} {M : MM} {Q : Int32 → MM → Prop} (l1 : Int32) (l2 : Int32)
    (h : ((l2 < 0 → Q (0 : Int32) M) ∧ (¬ l2 < 0 → (vp_in l2 5) ∧ ((((9 : Int32) ≤ (M 100 (l2).toNatClampNeg) → G κ mX1_nextLights 4 [.ref 99, .int l1, .int (l2 + (-1)), .null, .null] [] M Q) ∧ (¬ (9 : Int32) ≤ (M 100 (l2).toNatClampNeg) → ∀ v1 : Int32, v1 = ((M 100 (l2).toNatClampNeg) + (1 : Int32)) → (G κ mX1_nextLights 31 [.ref 99, .int l1, .null, .int v1, .int l2] [] M Q))))))) :
    G κ mX1_nextLights 4 [.ref 99, .int l1, .int l2, .null, .null] [] M Q := by
  refine g_iload_n (i := 2) dX1_nextLights_4 rfl rfl ?_
  refine g_if_lt (tgt := 59) dX1_nextLights_5 rfl ⟨fun hc => ?_, fun hc => ?_⟩
  · replace h := h.1 hc
    refine g_iconst (v := (0 : Int32)) dX1_nextLights_59 (by decide) ?_
    exact g_zret dX1_nextLights_60 rfl rfl h
  · replace h := h.2 hc
    refine g_aload_n (i := 0) dX1_nextLights_8 rfl rfl ?_
    refine gf_RX1_9 rfl dX1_nextLights_9 sh_99 ?_
    refine g_iload_n (i := 2) dX1_nextLights_12 rfl rfl ?_
    have hv1 := h.1; replace h := h.2
    refine g_iald dX1_nextLights_13 sh_100 hv1 ?_
    refine g_bipush (v := (9 : Int32)) dX1_nextLights_14 (by decide) ?_
    refine g_icmp_ge (tgt := 53) dX1_nextLights_16 rfl ⟨fun hc => ?_, fun hc => ?_⟩
    · replace h := h.1 hc
      refine g_iinc (v := (l2 + (-1))) (L' := [.ref 99, .int l1, .int (l2 + (-1)), .null, .null]) dX1_nextLights_53 rfl rfl (Nat.le_of_ble_eq_true rfl) rfl rfl ?_
      refine g_goto (tgt := 4) dX1_nextLights_56 rfl ?_
      exact h
    · replace h := h.2 hc
      refine g_aload_n (i := 0) dX1_nextLights_19 rfl rfl ?_
      refine gf_RX1_9 rfl dX1_nextLights_20 sh_99 ?_
      refine g_iload_n (i := 2) dX1_nextLights_23 rfl rfl ?_
      refine g_iald dX1_nextLights_24 sh_100 hv1 ?_
      refine g_iconst (v := (1 : Int32)) dX1_nextLights_25 (by decide) ?_
      refine g_iadd dX1_nextLights_26 ?_
      refine lv_nm (fun v1 hn1 => ?_) (x := ((M 100 (l2).toNatClampNeg) + (1 : Int32)))
      replace h := h v1 hn1
      refine g_istore_n (i := 3) (L' := [.ref 99, .int l1, .int l2, .int v1, .null]) dX1_nextLights_27 rfl (Nat.le_of_ble_eq_true rfl) rfl rfl ?_
      refine g_iload_n (i := 2) dX1_nextLights_28 rfl rfl ?_
      refine g_istore (i := 4) (L' := [.ref 99, .int l1, .int l2, .int v1, .int l2]) dX1_nextLights_29 (Nat.le_of_ble_eq_true rfl) rfl rfl ?_
      exact g_sub _ (sub_c (Or.inr rfl) (sub_c (Or.inr rfl) (sub_c (Or.inl rfl) (sub_c (Or.inr rfl) (sub_c (Or.inr rfl) sub_n))))) h
theorem bX1_nextLights_31 {κ : gK} {M : MM} {Q : Int32 → MM → Prop} (l1 : Int32) (l3 : Int32) (l4 : Int32)
    (h : ((l1 ≤ l4 → Q (1 : Int32) M) ∧ (¬ l1 ≤ l4 → (vp_in l4 5) ∧ (∀ M1 : MM, M1 = (pt M 100 (l4).toNatClampNeg l3) → (G κ mX1_nextLights 31 [.ref 99, .int l1, .null, .int l3, .int (l4 + 1)] [] M1 Q))))) :
    G κ mX1_nextLights 31 [.ref 99, .int l1, .null, .int l3, .int l4] [] M Q := by
  refine g_iload (i := 4) dX1_nextLights_31 rfl ?_
  refine g_iload_n (i := 1) dX1_nextLights_33 rfl rfl ?_
  refine g_icmp_ge (tgt := 51) dX1_nextLights_34 rfl ⟨fun hc => ?_, fun hc => ?_⟩
  · replace h := h.1 hc
    refine g_iconst (v := (1 : Int32)) dX1_nextLights_51 (by decide) ?_
    exact g_zret dX1_nextLights_52 rfl rfl h
  · replace h := h.2 hc
    refine g_aload_n (i := 0) dX1_nextLights_37 rfl rfl ?_
    refine gf_RX1_9 rfl dX1_nextLights_38 sh_99 ?_
    refine g_iload (i := 4) dX1_nextLights_41 rfl ?_
    refine g_iload_n (i := 3) dX1_nextLights_43 rfl rfl ?_
    have hv1 := h.1; replace h := h.2
    refine g_iastP dX1_nextLights_44 sh_100 hv1 ?_
    refine g_nmM (fun M1 hM1 => ?_); replace h := h M1 hM1
    refine g_iinc (v := (l4 + 1)) (L' := [.ref 99, .int l1, .null, .int l3, .int (l4 + 1)]) dX1_nextLights_45 rfl rfl (Nat.le_of_ble_eq_true rfl) rfl rfl ?_
    refine g_goto (tgt := 31) dX1_nextLights_48 rfl ?_
    exact h
theorem eX1_nextLights {κ : gK} {M : MM} {Q : Int32 → MM → Prop} (l1 : Int32)
    (h : G κ mX1_nextLights 0 [.ref 99, .int l1, .null, .null, .null] [] M Q) : Cl κ mX1_nextLights [.ref 99, .int l1] M Q := g_entry 3 pl_X1_nextLights (Nat.le_of_ble_eq_true rfl) (L := [.ref 99, .int l1, .null, .null, .null]) rfl (g_sub _ (sub_c (Or.inr rfl) (sub_c (Or.inr rfl) (sub_c (Or.inr rfl) (sub_c (Or.inr rfl) (sub_c (Or.inr rfl) sub_n))))) h)
theorem dX7_share_0 : decode cX7_share 0 = .ok (.aload_n 1, 1) := by decide +kernel
theorem dX7_share_1 : decode cX7_share 1 = .ok (.invokevirtual 18, 3) := by decide +kernel
theorem dX7_share_4 : decode cX7_share 4 = .ok (.istore_n 2, 1) := by decide +kernel
theorem dX7_share_5 : decode cX7_share 5 = .ok (.bipush 8, 2) := by decide +kernel
theorem dX7_share_7 : decode cX7_share 7 = .ok (.istore_n 3, 1) := by decide +kernel
theorem dX7_share_8 : decode cX7_share 8 = .ok (.iload_n 3, 1) := by decide +kernel
theorem dX7_share_9 : decode cX7_share 9 = .ok (.ifCond .lt 55, 3) := by decide +kernel
theorem dX7_share_12 : decode cX7_share 12 = .ok (.aload_n 1, 1) := by decide +kernel
theorem dX7_share_13 : decode cX7_share 13 = .ok (.iconst 1, 1) := by decide +kernel
theorem dX7_share_14 : decode cX7_share 14 = .ok (.iload_n 3, 1) := by decide +kernel
theorem dX7_share_15 : decode cX7_share 15 = .ok (.ishl, 1) := by decide +kernel
theorem dX7_share_16 : decode cX7_share 16 = .ok (.invokevirtual 24, 3) := by decide +kernel
theorem dX7_share_19 : decode cX7_share 19 = .ok (.istore 4, 2) := by decide +kernel
theorem dX7_share_21 : decode cX7_share 21 = .ok (.iconst 0, 1) := by decide +kernel
theorem dX7_share_22 : decode cX7_share 22 = .ok (.istore 5, 2) := by decide +kernel
theorem dX7_share_24 : decode cX7_share 24 = .ok (.iload 5, 2) := by decide +kernel
theorem dX7_share_26 : decode cX7_share 26 = .ok (.iload_n 2, 1) := by decide +kernel
theorem dX7_share_27 : decode cX7_share 27 = .ok (.if_icmp .gt 31, 3) := by decide +kernel
theorem dX7_share_30 : decode cX7_share 30 = .ok (.aload_n 0, 1) := by decide +kernel
theorem dX7_share_31 : decode cX7_share 31 = .ok (.getfield 11, 3) := by decide +kernel
theorem dX7_share_34 : decode cX7_share 34 = .ok (.iload_n 3, 1) := by decide +kernel
theorem dX7_share_35 : decode cX7_share 35 = .ok (.sipush 256, 3) := by decide +kernel
theorem dX7_share_38 : decode cX7_share 38 = .ok (.imul, 1) := by decide +kernel
theorem dX7_share_39 : decode cX7_share 39 = .ok (.iload 5, 2) := by decide +kernel
theorem dX7_share_41 : decode cX7_share 41 = .ok (.iadd, 1) := by decide +kernel
theorem dX7_share_42 : decode cX7_share 42 = .ok (.aload_n 0, 1) := by decide +kernel
theorem dX7_share_43 : decode cX7_share 43 = .ok (.iload_n 3, 1) := by decide +kernel
theorem dX7_share_44 : decode cX7_share 44 = .ok (.iload 4, 2) := by decide +kernel
theorem dX7_share_46 : decode cX7_share 46 = .ok (.iload 5, 2) := by decide +kernel
theorem dX7_share_48 : decode cX7_share 48 = .ok (.invokevirtual 28, 3) := by decide +kernel
theorem dX7_share_51 : decode cX7_share 51 = .ok (.iastore, 1) := by decide +kernel
theorem dX7_share_52 : decode cX7_share 52 = .ok (.iinc 5 1, 3) := by decide +kernel
theorem dX7_share_55 : decode cX7_share 55 = .ok (.goto (-31), 3) := by decide +kernel
theorem dX7_share_58 : decode cX7_share 58 = .ok (.iinc 3 (-1), 3) := by decide +kernel
theorem dX7_share_61 : decode cX7_share 61 = .ok (.goto (-53), 3) := by decide +kernel
theorem dX7_share_64 : decode cX7_share 64 = .ok (.aload_n 0, 1) := by decide +kernel
theorem dX7_share_65 : decode cX7_share 65 = .ok (.aload_n 1, 1) := by decide +kernel
theorem dX7_share_66 : decode cX7_share 66 = .ok (.invokevirtual 32, 3) := by decide +kernel
theorem dX7_share_69 : decode cX7_share 69 = .ok (.aload_n 0, 1) := by decide +kernel
theorem dX7_share_70 : decode cX7_share 70 = .ok (.getfield 11, 3) := by decide +kernel
theorem dX7_share_73 : decode cX7_share 73 = .ok (.iconst 0, 1) := by decide +kernel
theorem dX7_share_74 : decode cX7_share 74 = .ok (.iaload, 1) := by decide +kernel
theorem dX7_share_75 : decode cX7_share 75 = .ok (.ireturn, 1) := by decide +kernel
theorem bX7_share_0 {κ : gK} {M : MM} {Q : Int32 → MM → Prop} (o1 : Nat) (ho1 : stO o1)
    (h : Cl κ mX8_everybody [.ref o1] M (fun r1 M1 => G κ mX7_share 8 [.ref 102, .ref o1, .int r1, .int (8 : Int32), .null, .null] [] M1 Q)) :
    G κ mX7_share 0 [.ref 102, .ref o1, .null, .null, .null, .null] [] M Q := by
  refine g_aload_n (i := 1) dX7_share_0 rfl rfl ?_
  refine gc_RX7_18 rfl (Nat.le_of_ble_eq_true rfl) dX7_share_1 ho1.1 (Nat.le_of_ble_eq_true rfl) ?_
  refine Cl.mono h (fun r1 M1 h => ?_)
  refine g_istore_n (i := 2) (L' := [.ref 102, .ref o1, .int r1, .null, .null, .null]) dX7_share_4 rfl (Nat.le_of_ble_eq_true rfl) rfl rfl ?_
  refine g_bipush (v := (8 : Int32)) dX7_share_5 (by decide) ?_
  refine g_istore_n (i := 3) (L' := [.ref 102, .ref o1, .int r1, .int (8 : Int32), .null, .null]) dX7_share_7 rfl (Nat.le_of_ble_eq_true rfl) rfl rfl ?_
  exact h
theorem bX7_share_8 {κ : gK} {M : MM} {Q : Int32 → MM → Prop} (o1 : Nat) (ho1 : stO o1) (l2 : Int32) (l3 : Int32)
    (h : ((l3 < 0 → Cl κ mX7_chooseKeepers [.ref 102, .ref o1] M (fun _ M1 => Q (M1 103 0) M1)) ∧ (¬ l3 < 0 → Cl κ mX8_whoIsOn [.ref o1, .int (jshl (1 : Int32) l3)] M (fun r2 M2 => G κ mX7_share 24 [.ref 102, .ref o1, .int l2, .int l3, .int r2, .int (0 : Int32)] [] M2 Q)))) :
    G κ mX7_share 8 [.ref 102, .ref o1, .int l2, .int l3, .null, .null] [] M Q := by
  refine g_iload_n (i := 3) dX7_share_8 rfl rfl ?_
  refine g_if_lt (tgt := 64) dX7_share_9 rfl ⟨fun hc => ?_, fun hc => ?_⟩
  · replace h := h.1 hc
    refine g_aload_n (i := 0) dX7_share_64 rfl rfl ?_
    refine g_aload_n (i := 1) dX7_share_65 rfl rfl ?_
    refine gc_RX7_32 rfl (Nat.le_of_ble_eq_true rfl) dX7_share_66 sh_102 (Nat.le_of_ble_eq_true rfl) ?_
    refine Cl.mono h (fun r1 M1 h => ?_)
    refine g_aload_n (i := 0) dX7_share_69 rfl rfl ?_
    refine gf_RX7_11 rfl dX7_share_70 sh_102 ?_
    refine g_iconst (v := (0 : Int32)) dX7_share_73 (by decide) ?_
    refine g_iald dX7_share_74 sh_103 (by unfold vp_in; decide) ?_
    exact g_iret dX7_share_75 rfl h
  · replace h := h.2 hc
    refine g_aload_n (i := 1) dX7_share_12 rfl rfl ?_
    refine g_iconst (v := (1 : Int32)) dX7_share_13 (by decide) ?_
    refine g_iload_n (i := 3) dX7_share_14 rfl rfl ?_
    refine g_ishl dX7_share_15 ?_
    refine gc_RX7_24 rfl (Nat.le_of_ble_eq_true rfl) dX7_share_16 ho1.1 (Nat.le_of_ble_eq_true rfl) ?_
    refine Cl.mono h (fun r2 M2 h => ?_)
    refine g_istore (i := 4) (L' := [.ref 102, .ref o1, .int l2, .int l3, .int r2, .null]) dX7_share_19 (Nat.le_of_ble_eq_true rfl) rfl rfl ?_
    refine g_iconst (v := (0 : Int32)) dX7_share_21 (by decide) ?_
    refine g_istore (i := 5) (L' := [.ref 102, .ref o1, .int l2, .int l3, .int r2, .int (0 : Int32)]) dX7_share_22 (Nat.le_of_ble_eq_true rfl) rfl rfl ?_
    exact h
theorem bX7_share_24 {κ : gK} {M : MM} {Q : Int32 → MM → Prop} (o1 : Nat) (ho1 : stO o1) (l2 : Int32) (l3 : Int32) (l4 : Int32) (l5 : Int32)
    (h : ((l2 < l5 → G κ mX7_share 8 [.ref 102, .ref o1, .int l2, .int (l3 + (-1)), .null, .null] [] M Q) ∧ (¬ l2 < l5 → Cl κ mX7_mostFrom [.ref 102, .int l3, .int l4, .int l5] M (fun r1 M1 => (vp_in ((l3 * (256 : Int32)) + l5) 2560) ∧ (∀ M2 : MM, M2 = (pt M1 103 (((l3 * (256 : Int32)) + l5)).toNatClampNeg r1) → (G κ mX7_share 24 [.ref 102, .ref o1, .int l2, .int l3, .int l4, .int (l5 + 1)] [] M2 Q)))))) :
    G κ mX7_share 24 [.ref 102, .ref o1, .int l2, .int l3, .int l4, .int l5] [] M Q := by
  refine g_iload (i := 5) dX7_share_24 rfl ?_
  refine g_iload_n (i := 2) dX7_share_26 rfl rfl ?_
  refine g_icmp_gt (tgt := 58) dX7_share_27 rfl ⟨fun hc => ?_, fun hc => ?_⟩
  · replace h := h.1 hc
    refine g_iinc (v := (l3 + (-1))) (L' := [.ref 102, .ref o1, .int l2, .int (l3 + (-1)), .int l4, .int l5]) dX7_share_58 rfl rfl (Nat.le_of_ble_eq_true rfl) rfl rfl ?_
    refine g_goto (tgt := 8) dX7_share_61 rfl ?_
    exact g_sub _ (sub_c (Or.inr rfl) (sub_c (Or.inr rfl) (sub_c (Or.inr rfl) (sub_c (Or.inr rfl) (sub_c (Or.inl rfl) (sub_c (Or.inl rfl) sub_n)))))) h
  · replace h := h.2 hc
    refine g_aload_n (i := 0) dX7_share_30 rfl rfl ?_
    refine gf_RX7_11 rfl dX7_share_31 sh_102 ?_
    refine g_iload_n (i := 3) dX7_share_34 rfl rfl ?_
    refine g_sipush (v := (256 : Int32)) dX7_share_35 (by decide) ?_
    refine g_imul dX7_share_38 ?_
    refine g_iload (i := 5) dX7_share_39 rfl ?_
    refine g_iadd dX7_share_41 ?_
    refine g_aload_n (i := 0) dX7_share_42 rfl rfl ?_
    refine g_iload_n (i := 3) dX7_share_43 rfl rfl ?_
    refine g_iload (i := 4) dX7_share_44 rfl ?_
    refine g_iload (i := 5) dX7_share_46 rfl ?_
    refine gc_RX7_28 rfl (Nat.le_of_ble_eq_true rfl) dX7_share_48 sh_102 (Nat.le_of_ble_eq_true rfl) ?_
    refine Cl.mono h (fun r1 M1 h => ?_)
    have hv1 := h.1; replace h := h.2
    refine g_iastP dX7_share_51 sh_103 hv1 ?_
    refine g_nmM (fun M2 hM2 => ?_); replace h := h M2 hM2
    refine g_iinc (v := (l5 + 1)) (L' := [.ref 102, .ref o1, .int l2, .int l3, .int l4, .int (l5 + 1)]) dX7_share_52 rfl rfl (Nat.le_of_ble_eq_true rfl) rfl rfl ?_
    refine g_goto (tgt := 24) dX7_share_55 rfl ?_
    exact h
theorem eX7_share {κ : gK} {M : MM} {Q : Int32 → MM → Prop} (o1 : Nat)
    (h : G κ mX7_share 0 [.ref 102, .ref o1, .null, .null, .null, .null] [] M Q) : Cl κ mX7_share [.ref 102, .ref o1] M Q := g_entry 4 pl_X7_share (Nat.le_of_ble_eq_true rfl) (L := [.ref 102, .ref o1, .null, .null, .null, .null]) rfl (g_sub _ (sub_c (Or.inr rfl) (sub_c (Or.inr rfl) (sub_c (Or.inr rfl) (sub_c (Or.inr rfl) (sub_c (Or.inr rfl) (sub_c (Or.inr rfl) sub_n)))))) h)
theorem dX7_mostFrom_0 : decode cX7_mostFrom 0 = .ok (.aload_n 0, 1) := by decide +kernel
theorem dX7_mostFrom_1 : decode cX7_mostFrom 1 = .ok (.iload_n 1, 1) := by decide +kernel
theorem dX7_mostFrom_2 : decode cX7_mostFrom 2 = .ok (.iload_n 3, 1) := by decide +kernel
theorem dX7_mostFrom_3 : decode cX7_mostFrom 3 = .ok (.invokevirtual 36, 3) := by decide +kernel
theorem dX7_mostFrom_6 : decode cX7_mostFrom 6 = .ok (.istore 4, 2) := by decide +kernel
theorem dX7_mostFrom_8 : decode cX7_mostFrom 8 = .ok (.iconst 0, 1) := by decide +kernel
theorem dX7_mostFrom_9 : decode cX7_mostFrom 9 = .ok (.istore 5, 2) := by decide +kernel
theorem dX7_mostFrom_11 : decode cX7_mostFrom 11 = .ok (.iload 5, 2) := by decide +kernel
theorem dX7_mostFrom_13 : decode cX7_mostFrom 13 = .ok (.bipush 8, 2) := by decide +kernel
theorem dX7_mostFrom_15 : decode cX7_mostFrom 15 = .ok (.if_icmp .ge 44, 3) := by decide +kernel
theorem dX7_mostFrom_18 : decode cX7_mostFrom 18 = .ok (.iconst 1, 1) := by decide +kernel
theorem dX7_mostFrom_19 : decode cX7_mostFrom 19 = .ok (.iload 5, 2) := by decide +kernel
theorem dX7_mostFrom_21 : decode cX7_mostFrom 21 = .ok (.ishl, 1) := by decide +kernel
theorem dX7_mostFrom_22 : decode cX7_mostFrom 22 = .ok (.istore 6, 2) := by decide +kernel
theorem dX7_mostFrom_24 : decode cX7_mostFrom 24 = .ok (.iload_n 2, 1) := by decide +kernel
theorem dX7_mostFrom_25 : decode cX7_mostFrom 25 = .ok (.iload 6, 2) := by decide +kernel
theorem dX7_mostFrom_27 : decode cX7_mostFrom 27 = .ok (.iand, 1) := by decide +kernel
theorem dX7_mostFrom_28 : decode cX7_mostFrom 28 = .ok (.iload_n 3, 1) := by decide +kernel
theorem dX7_mostFrom_29 : decode cX7_mostFrom 29 = .ok (.iconst (-1), 1) := by decide +kernel
theorem dX7_mostFrom_30 : decode cX7_mostFrom 30 = .ok (.ixor, 1) := by decide +kernel
theorem dX7_mostFrom_31 : decode cX7_mostFrom 31 = .ok (.iand, 1) := by decide +kernel
theorem dX7_mostFrom_32 : decode cX7_mostFrom 32 = .ok (.ifCond .eq 21, 3) := by decide +kernel
theorem dX7_mostFrom_35 : decode cX7_mostFrom 35 = .ok (.iload 4, 2) := by decide +kernel
theorem dX7_mostFrom_37 : decode cX7_mostFrom 37 = .ok (.iconst 1, 1) := by decide +kernel
theorem dX7_mostFrom_38 : decode cX7_mostFrom 38 = .ok (.aload_n 0, 1) := by decide +kernel
theorem dX7_mostFrom_39 : decode cX7_mostFrom 39 = .ok (.iload_n 1, 1) := by decide +kernel
theorem dX7_mostFrom_40 : decode cX7_mostFrom 40 = .ok (.iload_n 3, 1) := by decide +kernel
theorem dX7_mostFrom_41 : decode cX7_mostFrom 41 = .ok (.iload 6, 2) := by decide +kernel
theorem dX7_mostFrom_43 : decode cX7_mostFrom 43 = .ok (.ior, 1) := by decide +kernel
theorem dX7_mostFrom_44 : decode cX7_mostFrom 44 = .ok (.invokevirtual 36, 3) := by decide +kernel
theorem dX7_mostFrom_47 : decode cX7_mostFrom 47 = .ok (.iadd, 1) := by decide +kernel
theorem dX7_mostFrom_48 : decode cX7_mostFrom 48 = .ok (.invokestatic 40, 3) := by decide +kernel
theorem dX7_mostFrom_51 : decode cX7_mostFrom 51 = .ok (.istore 4, 2) := by decide +kernel
theorem dX7_mostFrom_53 : decode cX7_mostFrom 53 = .ok (.iinc 5 1, 3) := by decide +kernel
theorem dX7_mostFrom_56 : decode cX7_mostFrom 56 = .ok (.goto (-45), 3) := by decide +kernel
theorem dX7_mostFrom_59 : decode cX7_mostFrom 59 = .ok (.iload 4, 2) := by decide +kernel
theorem dX7_mostFrom_61 : decode cX7_mostFrom 61 = .ok (.ireturn, 1) := by decide +kernel
theorem bX7_mostFrom_0 {κ : gK} {M : MM} {Q : Int32 → MM → Prop} (l1 : Int32) (l2 : Int32) (l3 : Int32)
    (h : Cl κ mX7_mostBehind [.ref 102, .int l1, .int l3] M (fun r1 M1 => G κ mX7_mostFrom 11 [.ref 102, .int l1, .int l2, .int l3, .int r1, .int (0 : Int32), .null] [] M1 Q)) :
    G κ mX7_mostFrom 0 [.ref 102, .int l1, .int l2, .int l3, .null, .null, .null] [] M Q := by
  refine g_aload_n (i := 0) dX7_mostFrom_0 rfl rfl ?_
  refine g_iload_n (i := 1) dX7_mostFrom_1 rfl rfl ?_
  refine g_iload_n (i := 3) dX7_mostFrom_2 rfl rfl ?_
  refine gc_RX7_36 rfl (Nat.le_of_ble_eq_true rfl) dX7_mostFrom_3 sh_102 (Nat.le_of_ble_eq_true rfl) ?_
  refine Cl.mono h (fun r1 M1 h => ?_)
  refine g_istore (i := 4) (L' := [.ref 102, .int l1, .int l2, .int l3, .int r1, .null, .null]) dX7_mostFrom_6 (Nat.le_of_ble_eq_true rfl) rfl rfl ?_
  refine g_iconst (v := (0 : Int32)) dX7_mostFrom_8 (by decide) ?_
  refine g_istore (i := 5) (L' := [.ref 102, .int l1, .int l2, .int l3, .int r1, .int (0 : Int32), .null]) dX7_mostFrom_9 (Nat.le_of_ble_eq_true rfl) rfl rfl ?_
  exact h
theorem bX7_mostFrom_11 {κ : gK} {M : MM} {Q : Int32 → MM → Prop} (l1 : Int32) (l2 : Int32) (l3 : Int32) (l4 : Int32) (l5 : Int32)
    (h : (((8 : Int32) ≤ l5 → Q l4 M) ∧ (¬ (8 : Int32) ≤ l5 → ((((l2 &&& (jshl (1 : Int32) l5)) &&& (l3 ^^^ (-1 : Int32))) = 0 → G κ mX7_mostFrom 53 [.ref 102, .int l1, .int l2, .int l3, .int l4, .int l5, .null] [] M Q) ∧ (¬ ((l2 &&& (jshl (1 : Int32) l5)) &&& (l3 ^^^ (-1 : Int32))) = 0 → Cl κ mX7_mostBehind [.ref 102, .int l1, .int (l3 ||| (jshl (1 : Int32) l5))] M (fun r1 M1 => ∀ v2 : Int32, v2 = (jmax l4 ((1 : Int32) + r1)) → (G κ mX7_mostFrom 53 [.ref 102, .int l1, .int l2, .int l3, .int v2, .int l5, .null] [] M1 Q))))))) :
    G κ mX7_mostFrom 11 [.ref 102, .int l1, .int l2, .int l3, .int l4, .int l5, .null] [] M Q := by
  refine g_iload (i := 5) dX7_mostFrom_11 rfl ?_
  refine g_bipush (v := (8 : Int32)) dX7_mostFrom_13 (by decide) ?_
  refine g_icmp_ge (tgt := 59) dX7_mostFrom_15 rfl ⟨fun hc => ?_, fun hc => ?_⟩
  · replace h := h.1 hc
    refine g_iload (i := 4) dX7_mostFrom_59 rfl ?_
    exact g_iret dX7_mostFrom_61 rfl h
  · replace h := h.2 hc
    refine g_iconst (v := (1 : Int32)) dX7_mostFrom_18 (by decide) ?_
    refine g_iload (i := 5) dX7_mostFrom_19 rfl ?_
    refine g_ishl dX7_mostFrom_21 ?_
    refine g_istore (i := 6) (L' := [.ref 102, .int l1, .int l2, .int l3, .int l4, .int l5, .int (jshl (1 : Int32) l5)]) dX7_mostFrom_22 (Nat.le_of_ble_eq_true rfl) rfl rfl ?_
    refine g_iload_n (i := 2) dX7_mostFrom_24 rfl rfl ?_
    refine g_iload (i := 6) dX7_mostFrom_25 rfl ?_
    refine g_iand dX7_mostFrom_27 ?_
    refine g_iload_n (i := 3) dX7_mostFrom_28 rfl rfl ?_
    refine g_iconst (v := (-1 : Int32)) dX7_mostFrom_29 (by decide) ?_
    refine g_ixor dX7_mostFrom_30 ?_
    refine g_iand dX7_mostFrom_31 ?_
    refine g_if_eq (tgt := 53) dX7_mostFrom_32 rfl ⟨fun hc => ?_, fun hc => ?_⟩
    · replace h := h.1 hc
      exact g_sub _ (sub_c (Or.inr rfl) (sub_c (Or.inr rfl) (sub_c (Or.inr rfl) (sub_c (Or.inr rfl) (sub_c (Or.inr rfl) (sub_c (Or.inr rfl) (sub_c (Or.inl rfl) sub_n))))))) h
    · replace h := h.2 hc
      refine g_iload (i := 4) dX7_mostFrom_35 rfl ?_
      refine g_iconst (v := (1 : Int32)) dX7_mostFrom_37 (by decide) ?_
      refine g_aload_n (i := 0) dX7_mostFrom_38 rfl rfl ?_
      refine g_iload_n (i := 1) dX7_mostFrom_39 rfl rfl ?_
      refine g_iload_n (i := 3) dX7_mostFrom_40 rfl rfl ?_
      refine g_iload (i := 6) dX7_mostFrom_41 rfl ?_
      refine g_ior dX7_mostFrom_43 ?_
      refine gc_RX7_36 rfl (Nat.le_of_ble_eq_true rfl) dX7_mostFrom_44 sh_102 (Nat.le_of_ble_eq_true rfl) ?_
      refine Cl.mono h (fun r1 M1 h => ?_)
      refine g_iadd dX7_mostFrom_47 ?_
      refine gc_RX7_40 rfl dX7_mostFrom_48 (Nat.le_of_ble_eq_true rfl) (Nat.le_of_ble_eq_true rfl) ?_
      refine lv_nm (fun v2 hn2 => ?_) (x := (jmax l4 ((1 : Int32) + r1)))
      replace h := h v2 hn2
      refine g_istore (i := 4) (L' := [.ref 102, .int l1, .int l2, .int l3, .int v2, .int l5, .int (jshl (1 : Int32) l5)]) dX7_mostFrom_51 (Nat.le_of_ble_eq_true rfl) rfl rfl ?_
      exact g_sub _ (sub_c (Or.inr rfl) (sub_c (Or.inr rfl) (sub_c (Or.inr rfl) (sub_c (Or.inr rfl) (sub_c (Or.inr rfl) (sub_c (Or.inr rfl) (sub_c (Or.inl rfl) sub_n))))))) h
theorem bX7_mostFrom_53 {κ : gK} {M : MM} {Q : Int32 → MM → Prop} (l1 : Int32) (l2 : Int32) (l3 : Int32) (l4 : Int32) (l5 : Int32)
    (h : G κ mX7_mostFrom 11 [.ref 102, .int l1, .int l2, .int l3, .int l4, .int (l5 + 1), .null] [] M Q) :
    G κ mX7_mostFrom 53 [.ref 102, .int l1, .int l2, .int l3, .int l4, .int l5, .null] [] M Q := by
  refine g_iinc (v := (l5 + 1)) (L' := [.ref 102, .int l1, .int l2, .int l3, .int l4, .int (l5 + 1), .null]) dX7_mostFrom_53 rfl rfl (Nat.le_of_ble_eq_true rfl) rfl rfl ?_
  refine g_goto (tgt := 11) dX7_mostFrom_56 rfl ?_
  exact h
theorem eX7_mostFrom {κ : gK} {M : MM} {Q : Int32 → MM → Prop} (l1 : Int32) (l2 : Int32) (l3 : Int32)
    (h : G κ mX7_mostFrom 0 [.ref 102, .int l1, .int l2, .int l3, .null, .null, .null] [] M Q) : Cl κ mX7_mostFrom [.ref 102, .int l1, .int l2, .int l3] M Q := g_entry 3 pl_X7_mostFrom (Nat.le_of_ble_eq_true rfl) (L := [.ref 102, .int l1, .int l2, .int l3, .null, .null, .null]) rfl (g_sub _ (sub_c (Or.inr rfl) (sub_c (Or.inr rfl) (sub_c (Or.inr rfl) (sub_c (Or.inr rfl) (sub_c (Or.inr rfl) (sub_c (Or.inr rfl) (sub_c (Or.inr rfl) sub_n))))))) h)
theorem dX7_mostBehind_0 : decode cX7_mostBehind 0 = .ok (.aload_n 0, 1) := by decide +kernel
theorem dX7_mostBehind_1 : decode cX7_mostBehind 1 = .ok (.getfield 11, 3) := by decide +kernel
theorem dX7_mostBehind_4 : decode cX7_mostBehind 4 = .ok (.iload_n 1, 1) := by decide +kernel
theorem dX7_mostBehind_5 : decode cX7_mostBehind 5 = .ok (.iconst 1, 1) := by decide +kernel
theorem dX7_mostBehind_6 : decode cX7_mostBehind 6 = .ok (.iadd, 1) := by decide +kernel
theorem dX7_mostBehind_7 : decode cX7_mostBehind 7 = .ok (.sipush 256, 3) := by decide +kernel
theorem dX7_mostBehind_10 : decode cX7_mostBehind 10 = .ok (.imul, 1) := by decide +kernel
theorem dX7_mostBehind_11 : decode cX7_mostBehind 11 = .ok (.iload_n 2, 1) := by decide +kernel
theorem dX7_mostBehind_12 : decode cX7_mostBehind 12 = .ok (.iadd, 1) := by decide +kernel
theorem dX7_mostBehind_13 : decode cX7_mostBehind 13 = .ok (.iaload, 1) := by decide +kernel
theorem dX7_mostBehind_14 : decode cX7_mostBehind 14 = .ok (.ireturn, 1) := by decide +kernel
theorem bX7_mostBehind_0 {κ : gK} {M : MM} {Q : Int32 → MM → Prop} (l1 : Int32) (l2 : Int32)
    (h : (vp_in (((l1 + (1 : Int32)) * (256 : Int32)) + l2) 2560) ∧ (Q (M 103 ((((l1 + (1 : Int32)) * (256 : Int32)) + l2)).toNatClampNeg) M)) :
    G κ mX7_mostBehind 0 [.ref 102, .int l1, .int l2] [] M Q := by
  refine g_aload_n (i := 0) dX7_mostBehind_0 rfl rfl ?_
  refine gf_RX7_11 rfl dX7_mostBehind_1 sh_102 ?_
  refine g_iload_n (i := 1) dX7_mostBehind_4 rfl rfl ?_
  refine g_iconst (v := (1 : Int32)) dX7_mostBehind_5 (by decide) ?_
  refine g_iadd dX7_mostBehind_6 ?_
  refine g_sipush (v := (256 : Int32)) dX7_mostBehind_7 (by decide) ?_
  refine g_imul dX7_mostBehind_10 ?_
  refine g_iload_n (i := 2) dX7_mostBehind_11 rfl rfl ?_
  refine g_iadd dX7_mostBehind_12 ?_
  have hv1 := h.1; replace h := h.2
  refine g_iald dX7_mostBehind_13 sh_103 hv1 ?_
  exact g_iret dX7_mostBehind_14 rfl h
theorem eX7_mostBehind {κ : gK} {M : MM} {Q : Int32 → MM → Prop} (l1 : Int32) (l2 : Int32)
    (h : G κ mX7_mostBehind 0 [.ref 102, .int l1, .int l2] [] M Q) : Cl κ mX7_mostBehind [.ref 102, .int l1, .int l2] M Q := g_entry 0 pl_X7_mostBehind (Nat.le_of_ble_eq_true rfl) (L := [.ref 102, .int l1, .int l2]) rfl (g_sub _ (sub_c (Or.inr rfl) (sub_c (Or.inr rfl) (sub_c (Or.inr rfl) sub_n))) h)
theorem dX7_chooseKeepers_0 : decode cX7_chooseKeepers 0 = .ok (.iconst 0, 1) := by decide +kernel
theorem dX7_chooseKeepers_1 : decode cX7_chooseKeepers 1 = .ok (.istore_n 2, 1) := by decide +kernel
theorem dX7_chooseKeepers_2 : decode cX7_chooseKeepers 2 = .ok (.iconst 0, 1) := by decide +kernel
theorem dX7_chooseKeepers_3 : decode cX7_chooseKeepers 3 = .ok (.istore_n 3, 1) := by decide +kernel
theorem dX7_chooseKeepers_4 : decode cX7_chooseKeepers 4 = .ok (.iload_n 3, 1) := by decide +kernel
theorem dX7_chooseKeepers_5 : decode cX7_chooseKeepers 5 = .ok (.bipush 9, 2) := by decide +kernel
theorem dX7_chooseKeepers_7 : decode cX7_chooseKeepers 7 = .ok (.if_icmp .ge 49, 3) := by decide +kernel
theorem dX7_chooseKeepers_10 : decode cX7_chooseKeepers 10 = .ok (.aload_n 0, 1) := by decide +kernel
theorem dX7_chooseKeepers_11 : decode cX7_chooseKeepers 11 = .ok (.getfield 15, 3) := by decide +kernel
theorem dX7_chooseKeepers_14 : decode cX7_chooseKeepers 14 = .ok (.iload_n 3, 1) := by decide +kernel
theorem dX7_chooseKeepers_15 : decode cX7_chooseKeepers 15 = .ok (.aload_n 0, 1) := by decide +kernel
theorem dX7_chooseKeepers_16 : decode cX7_chooseKeepers 16 = .ok (.iload_n 3, 1) := by decide +kernel
theorem dX7_chooseKeepers_17 : decode cX7_chooseKeepers 17 = .ok (.aload_n 1, 1) := by decide +kernel
theorem dX7_chooseKeepers_18 : decode cX7_chooseKeepers 18 = .ok (.iconst 1, 1) := by decide +kernel
theorem dX7_chooseKeepers_19 : decode cX7_chooseKeepers 19 = .ok (.iload_n 3, 1) := by decide +kernel
theorem dX7_chooseKeepers_20 : decode cX7_chooseKeepers 20 = .ok (.ishl, 1) := by decide +kernel
theorem dX7_chooseKeepers_21 : decode cX7_chooseKeepers 21 = .ok (.invokevirtual 24, 3) := by decide +kernel
theorem dX7_chooseKeepers_24 : decode cX7_chooseKeepers 24 = .ok (.iload_n 2, 1) := by decide +kernel
theorem dX7_chooseKeepers_25 : decode cX7_chooseKeepers 25 = .ok (.invokevirtual 45, 3) := by decide +kernel
theorem dX7_chooseKeepers_28 : decode cX7_chooseKeepers 28 = .ok (.iastore, 1) := by decide +kernel
theorem dX7_chooseKeepers_29 : decode cX7_chooseKeepers 29 = .ok (.aload_n 0, 1) := by decide +kernel
theorem dX7_chooseKeepers_30 : decode cX7_chooseKeepers 30 = .ok (.getfield 15, 3) := by decide +kernel
theorem dX7_chooseKeepers_33 : decode cX7_chooseKeepers 33 = .ok (.iload_n 3, 1) := by decide +kernel
theorem dX7_chooseKeepers_34 : decode cX7_chooseKeepers 34 = .ok (.iaload, 1) := by decide +kernel
theorem dX7_chooseKeepers_35 : decode cX7_chooseKeepers 35 = .ok (.iconst (-1), 1) := by decide +kernel
theorem dX7_chooseKeepers_36 : decode cX7_chooseKeepers 36 = .ok (.if_icmp .eq 14, 3) := by decide +kernel
theorem dX7_chooseKeepers_39 : decode cX7_chooseKeepers 39 = .ok (.iload_n 2, 1) := by decide +kernel
theorem dX7_chooseKeepers_40 : decode cX7_chooseKeepers 40 = .ok (.iconst 1, 1) := by decide +kernel
theorem dX7_chooseKeepers_41 : decode cX7_chooseKeepers 41 = .ok (.aload_n 0, 1) := by decide +kernel
theorem dX7_chooseKeepers_42 : decode cX7_chooseKeepers 42 = .ok (.getfield 15, 3) := by decide +kernel
theorem dX7_chooseKeepers_45 : decode cX7_chooseKeepers 45 = .ok (.iload_n 3, 1) := by decide +kernel
theorem dX7_chooseKeepers_46 : decode cX7_chooseKeepers 46 = .ok (.iaload, 1) := by decide +kernel
theorem dX7_chooseKeepers_47 : decode cX7_chooseKeepers 47 = .ok (.ishl, 1) := by decide +kernel
theorem dX7_chooseKeepers_48 : decode cX7_chooseKeepers 48 = .ok (.ior, 1) := by decide +kernel
theorem dX7_chooseKeepers_49 : decode cX7_chooseKeepers 49 = .ok (.istore_n 2, 1) := by decide +kernel
theorem dX7_chooseKeepers_50 : decode cX7_chooseKeepers 50 = .ok (.iinc 3 1, 3) := by decide +kernel
theorem dX7_chooseKeepers_53 : decode cX7_chooseKeepers 53 = .ok (.goto (-49), 3) := by decide +kernel
theorem dX7_chooseKeepers_56 : decode cX7_chooseKeepers 56 = .ok (.return_, 1) := by decide +kernel
theorem bX7_chooseKeepers_0 {κ : gK} {M : MM} {Q : Int32 → MM → Prop} (o1 : Nat) (ho1 : stO o1)
    (h : G κ mX7_chooseKeepers 4 [.ref 102, .ref o1, .int (0 : Int32), .int (0 : Int32)] [] M Q) :
    G κ mX7_chooseKeepers 0 [.ref 102, .ref o1, .null, .null] [] M Q := by
  refine g_iconst (v := (0 : Int32)) dX7_chooseKeepers_0 (by decide) ?_
  refine g_istore_n (i := 2) (L' := [.ref 102, .ref o1, .int (0 : Int32), .null]) dX7_chooseKeepers_1 rfl (Nat.le_of_ble_eq_true rfl) rfl rfl ?_
  refine g_iconst (v := (0 : Int32)) dX7_chooseKeepers_2 (by decide) ?_
  refine g_istore_n (i := 3) (L' := [.ref 102, .ref o1, .int (0 : Int32), .int (0 : Int32)]) dX7_chooseKeepers_3 rfl (Nat.le_of_ble_eq_true rfl) rfl rfl ?_
  exact h
theorem bX7_chooseKeepers_4 {κ : gK} {M : MM} {Q : Int32 → MM → Prop} (o1 : Nat) (ho1 : stO o1) (l2 : Int32) (l3 : Int32)
    (h : (((9 : Int32) ≤ l3 → Q 0 M) ∧ (¬ (9 : Int32) ≤ l3 → Cl κ mX8_whoIsOn [.ref o1, .int (jshl (1 : Int32) l3)] M (fun r1 M1 => Cl κ mX7_keeperFor [.ref 102, .int l3, .int r1, .int l2] M1 (fun r2 M2 => (vp_in l3 9) ∧ (∀ M3 : MM, M3 = (pt M2 104 (l3).toNatClampNeg r2) → ((((M3 104 (l3).toNatClampNeg) = (-1 : Int32) → G κ mX7_chooseKeepers 50 [.ref 102, .ref o1, .int l2, .int l3] [] M3 Q) ∧ (¬ (M3 104 (l3).toNatClampNeg) = (-1 : Int32) → ∀ v4 : Int32, v4 = (l2 ||| (jshl (1 : Int32) (M3 104 (l3).toNatClampNeg))) → (G κ mX7_chooseKeepers 50 [.ref 102, .ref o1, .int v4, .int l3] [] M3 Q)))))))))) :
    G κ mX7_chooseKeepers 4 [.ref 102, .ref o1, .int l2, .int l3] [] M Q := by
  refine g_iload_n (i := 3) dX7_chooseKeepers_4 rfl rfl ?_
  refine g_bipush (v := (9 : Int32)) dX7_chooseKeepers_5 (by decide) ?_
  refine g_icmp_ge (tgt := 56) dX7_chooseKeepers_7 rfl ⟨fun hc => ?_, fun hc => ?_⟩
  · replace h := h.1 hc
    exact g_vret dX7_chooseKeepers_56 rfl h
  · replace h := h.2 hc
    refine g_aload_n (i := 0) dX7_chooseKeepers_10 rfl rfl ?_
    refine gf_RX7_15 rfl dX7_chooseKeepers_11 sh_102 ?_
    refine g_iload_n (i := 3) dX7_chooseKeepers_14 rfl rfl ?_
    refine g_aload_n (i := 0) dX7_chooseKeepers_15 rfl rfl ?_
    refine g_iload_n (i := 3) dX7_chooseKeepers_16 rfl rfl ?_
    refine g_aload_n (i := 1) dX7_chooseKeepers_17 rfl rfl ?_
    refine g_iconst (v := (1 : Int32)) dX7_chooseKeepers_18 (by decide) ?_
    refine g_iload_n (i := 3) dX7_chooseKeepers_19 rfl rfl ?_
    refine g_ishl dX7_chooseKeepers_20 ?_
    refine gc_RX7_24 rfl (Nat.le_of_ble_eq_true rfl) dX7_chooseKeepers_21 ho1.1 (Nat.le_of_ble_eq_true rfl) ?_
    refine Cl.mono h (fun r1 M1 h => ?_)
    refine g_iload_n (i := 2) dX7_chooseKeepers_24 rfl rfl ?_
    refine gc_RX7_45 rfl (Nat.le_of_ble_eq_true rfl) dX7_chooseKeepers_25 sh_102 (Nat.le_of_ble_eq_true rfl) ?_
    refine Cl.mono h (fun r2 M2 h => ?_)
    have hv1 := h.1; replace h := h.2
    refine g_iastP dX7_chooseKeepers_28 sh_104 hv1 ?_
    refine g_nmM (fun M3 hM3 => ?_); replace h := h M3 hM3
    refine g_aload_n (i := 0) dX7_chooseKeepers_29 rfl rfl ?_
    refine gf_RX7_15 rfl dX7_chooseKeepers_30 sh_102 ?_
    refine g_iload_n (i := 3) dX7_chooseKeepers_33 rfl rfl ?_
    refine g_iald dX7_chooseKeepers_34 sh_104 hv1 ?_
    refine g_iconst (v := (-1 : Int32)) dX7_chooseKeepers_35 (by decide) ?_
    refine g_icmp_eq (tgt := 50) dX7_chooseKeepers_36 rfl ⟨fun hc => ?_, fun hc => ?_⟩
    · replace h := h.1 hc
      exact h
    · replace h := h.2 hc
      refine g_iload_n (i := 2) dX7_chooseKeepers_39 rfl rfl ?_
      refine g_iconst (v := (1 : Int32)) dX7_chooseKeepers_40 (by decide) ?_
      refine g_aload_n (i := 0) dX7_chooseKeepers_41 rfl rfl ?_
      refine gf_RX7_15 rfl dX7_chooseKeepers_42 sh_102 ?_
      refine g_iload_n (i := 3) dX7_chooseKeepers_45 rfl rfl ?_
      refine g_iald dX7_chooseKeepers_46 sh_104 hv1 ?_
      refine g_ishl dX7_chooseKeepers_47 ?_
      refine g_ior dX7_chooseKeepers_48 ?_
      refine lv_nm (fun v4 hn4 => ?_) (x := (l2 ||| (jshl (1 : Int32) (M3 104 (l3).toNatClampNeg))))
      replace h := h v4 hn4
      refine g_istore_n (i := 2) (L' := [.ref 102, .ref o1, .int v4, .int l3]) dX7_chooseKeepers_49 rfl (Nat.le_of_ble_eq_true rfl) rfl rfl ?_
      exact h
theorem bX7_chooseKeepers_50 {κ : gK} {M : MM} {Q : Int32 → MM → Prop} (o1 : Nat) (ho1 : stO o1) (l2 : Int32) (l3 : Int32)
    (h : G κ mX7_chooseKeepers 4 [.ref 102, .ref o1, .int l2, .int (l3 + 1)] [] M Q) :
    G κ mX7_chooseKeepers 50 [.ref 102, .ref o1, .int l2, .int l3] [] M Q := by
  refine g_iinc (v := (l3 + 1)) (L' := [.ref 102, .ref o1, .int l2, .int (l3 + 1)]) dX7_chooseKeepers_50 rfl rfl (Nat.le_of_ble_eq_true rfl) rfl rfl ?_
  refine g_goto (tgt := 4) dX7_chooseKeepers_53 rfl ?_
  exact h
theorem eX7_chooseKeepers {κ : gK} {M : MM} {Q : Int32 → MM → Prop} (o1 : Nat)
    (h : G κ mX7_chooseKeepers 0 [.ref 102, .ref o1, .null, .null] [] M Q) : Cl κ mX7_chooseKeepers [.ref 102, .ref o1] M Q := g_entry 2 pl_X7_chooseKeepers (Nat.le_of_ble_eq_true rfl) (L := [.ref 102, .ref o1, .null, .null]) rfl (g_sub _ (sub_c (Or.inr rfl) (sub_c (Or.inr rfl) (sub_c (Or.inr rfl) (sub_c (Or.inr rfl) sub_n)))) h)
theorem dX7_keeperFor_0 : decode cX7_keeperFor 0 = .ok (.iconst 0, 1) := by decide +kernel
theorem dX7_keeperFor_1 : decode cX7_keeperFor 1 = .ok (.istore 4, 2) := by decide +kernel
theorem dX7_keeperFor_3 : decode cX7_keeperFor 3 = .ok (.iload 4, 2) := by decide +kernel
theorem dX7_keeperFor_5 : decode cX7_keeperFor 5 = .ok (.bipush 8, 2) := by decide +kernel
theorem dX7_keeperFor_7 : decode cX7_keeperFor 7 = .ok (.if_icmp .ge 55, 3) := by decide +kernel
theorem dX7_keeperFor_10 : decode cX7_keeperFor 10 = .ok (.iconst 1, 1) := by decide +kernel
theorem dX7_keeperFor_11 : decode cX7_keeperFor 11 = .ok (.iload 4, 2) := by decide +kernel
theorem dX7_keeperFor_13 : decode cX7_keeperFor 13 = .ok (.ishl, 1) := by decide +kernel
theorem dX7_keeperFor_14 : decode cX7_keeperFor 14 = .ok (.istore 5, 2) := by decide +kernel
theorem dX7_keeperFor_16 : decode cX7_keeperFor 16 = .ok (.iload_n 2, 1) := by decide +kernel
theorem dX7_keeperFor_17 : decode cX7_keeperFor 17 = .ok (.iload 5, 2) := by decide +kernel
theorem dX7_keeperFor_19 : decode cX7_keeperFor 19 = .ok (.iand, 1) := by decide +kernel
theorem dX7_keeperFor_20 : decode cX7_keeperFor 20 = .ok (.iload_n 3, 1) := by decide +kernel
theorem dX7_keeperFor_21 : decode cX7_keeperFor 21 = .ok (.iconst (-1), 1) := by decide +kernel
theorem dX7_keeperFor_22 : decode cX7_keeperFor 22 = .ok (.ixor, 1) := by decide +kernel
theorem dX7_keeperFor_23 : decode cX7_keeperFor 23 = .ok (.iand, 1) := by decide +kernel
theorem dX7_keeperFor_24 : decode cX7_keeperFor 24 = .ok (.ifCond .eq 32, 3) := by decide +kernel
theorem dX7_keeperFor_27 : decode cX7_keeperFor 27 = .ok (.iconst 1, 1) := by decide +kernel
theorem dX7_keeperFor_28 : decode cX7_keeperFor 28 = .ok (.aload_n 0, 1) := by decide +kernel
theorem dX7_keeperFor_29 : decode cX7_keeperFor 29 = .ok (.iload_n 1, 1) := by decide +kernel
theorem dX7_keeperFor_30 : decode cX7_keeperFor 30 = .ok (.iload_n 3, 1) := by decide +kernel
theorem dX7_keeperFor_31 : decode cX7_keeperFor 31 = .ok (.iload 5, 2) := by decide +kernel
theorem dX7_keeperFor_33 : decode cX7_keeperFor 33 = .ok (.ior, 1) := by decide +kernel
theorem dX7_keeperFor_34 : decode cX7_keeperFor 34 = .ok (.invokevirtual 36, 3) := by decide +kernel
theorem dX7_keeperFor_37 : decode cX7_keeperFor 37 = .ok (.iadd, 1) := by decide +kernel
theorem dX7_keeperFor_38 : decode cX7_keeperFor 38 = .ok (.aload_n 0, 1) := by decide +kernel
theorem dX7_keeperFor_39 : decode cX7_keeperFor 39 = .ok (.getfield 11, 3) := by decide +kernel
theorem dX7_keeperFor_42 : decode cX7_keeperFor 42 = .ok (.iload_n 1, 1) := by decide +kernel
theorem dX7_keeperFor_43 : decode cX7_keeperFor 43 = .ok (.sipush 256, 3) := by decide +kernel
theorem dX7_keeperFor_46 : decode cX7_keeperFor 46 = .ok (.imul, 1) := by decide +kernel
theorem dX7_keeperFor_47 : decode cX7_keeperFor 47 = .ok (.iload_n 3, 1) := by decide +kernel
theorem dX7_keeperFor_48 : decode cX7_keeperFor 48 = .ok (.iadd, 1) := by decide +kernel
theorem dX7_keeperFor_49 : decode cX7_keeperFor 49 = .ok (.iaload, 1) := by decide +kernel
theorem dX7_keeperFor_50 : decode cX7_keeperFor 50 = .ok (.if_icmp .ne 6, 3) := by decide +kernel
theorem dX7_keeperFor_53 : decode cX7_keeperFor 53 = .ok (.iload 4, 2) := by decide +kernel
theorem dX7_keeperFor_55 : decode cX7_keeperFor 55 = .ok (.ireturn, 1) := by decide +kernel
theorem dX7_keeperFor_56 : decode cX7_keeperFor 56 = .ok (.iinc 4 1, 3) := by decide +kernel
theorem dX7_keeperFor_59 : decode cX7_keeperFor 59 = .ok (.goto (-56), 3) := by decide +kernel
theorem dX7_keeperFor_62 : decode cX7_keeperFor 62 = .ok (.iconst (-1), 1) := by decide +kernel
theorem dX7_keeperFor_63 : decode cX7_keeperFor 63 = .ok (.ireturn, 1) := by decide +kernel
theorem bX7_keeperFor_0 {κ : gK} {M : MM} {Q : Int32 → MM → Prop} (l1 : Int32) (l2 : Int32) (l3 : Int32)
    (h : G κ mX7_keeperFor 3 [.ref 102, .int l1, .int l2, .int l3, .int (0 : Int32), .null] [] M Q) :
    G κ mX7_keeperFor 0 [.ref 102, .int l1, .int l2, .int l3, .null, .null] [] M Q := by
  refine g_iconst (v := (0 : Int32)) dX7_keeperFor_0 (by decide) ?_
  refine g_istore (i := 4) (L' := [.ref 102, .int l1, .int l2, .int l3, .int (0 : Int32), .null]) dX7_keeperFor_1 (Nat.le_of_ble_eq_true rfl) rfl rfl ?_
  exact h
theorem bX7_keeperFor_3 {κ : gK} {M : MM} {Q : Int32 → MM → Prop} (l1 : Int32) (l2 : Int32) (l3 : Int32) (l4 : Int32)
    (h : (((8 : Int32) ≤ l4 → Q (-1 : Int32) M) ∧ (¬ (8 : Int32) ≤ l4 → ((((l2 &&& (jshl (1 : Int32) l4)) &&& (l3 ^^^ (-1 : Int32))) = 0 → G κ mX7_keeperFor 56 [.ref 102, .int l1, .int l2, .int l3, .int l4, .null] [] M Q) ∧ (¬ ((l2 &&& (jshl (1 : Int32) l4)) &&& (l3 ^^^ (-1 : Int32))) = 0 → Cl κ mX7_mostBehind [.ref 102, .int l1, .int (l3 ||| (jshl (1 : Int32) l4))] M (fun r1 M1 => (vp_in ((l1 * (256 : Int32)) + l3) 2560) ∧ (((((1 : Int32) + r1) = (M1 103 (((l1 * (256 : Int32)) + l3)).toNatClampNeg) → Q l4 M1) ∧ (¬ ((1 : Int32) + r1) = (M1 103 (((l1 * (256 : Int32)) + l3)).toNatClampNeg) → G κ mX7_keeperFor 56 [.ref 102, .int l1, .int l2, .int l3, .int l4, .null] [] M1 Q))))))))) :
    G κ mX7_keeperFor 3 [.ref 102, .int l1, .int l2, .int l3, .int l4, .null] [] M Q := by
  refine g_iload (i := 4) dX7_keeperFor_3 rfl ?_
  refine g_bipush (v := (8 : Int32)) dX7_keeperFor_5 (by decide) ?_
  refine g_icmp_ge (tgt := 62) dX7_keeperFor_7 rfl ⟨fun hc => ?_, fun hc => ?_⟩
  · replace h := h.1 hc
    refine g_iconst (v := (-1 : Int32)) dX7_keeperFor_62 (by decide) ?_
    exact g_iret dX7_keeperFor_63 rfl h
  · replace h := h.2 hc
    refine g_iconst (v := (1 : Int32)) dX7_keeperFor_10 (by decide) ?_
    refine g_iload (i := 4) dX7_keeperFor_11 rfl ?_
    refine g_ishl dX7_keeperFor_13 ?_
    refine g_istore (i := 5) (L' := [.ref 102, .int l1, .int l2, .int l3, .int l4, .int (jshl (1 : Int32) l4)]) dX7_keeperFor_14 (Nat.le_of_ble_eq_true rfl) rfl rfl ?_
    refine g_iload_n (i := 2) dX7_keeperFor_16 rfl rfl ?_
    refine g_iload (i := 5) dX7_keeperFor_17 rfl ?_
    refine g_iand dX7_keeperFor_19 ?_
    refine g_iload_n (i := 3) dX7_keeperFor_20 rfl rfl ?_
    refine g_iconst (v := (-1 : Int32)) dX7_keeperFor_21 (by decide) ?_
    refine g_ixor dX7_keeperFor_22 ?_
    refine g_iand dX7_keeperFor_23 ?_
    refine g_if_eq (tgt := 56) dX7_keeperFor_24 rfl ⟨fun hc => ?_, fun hc => ?_⟩
    · replace h := h.1 hc
      exact g_sub _ (sub_c (Or.inr rfl) (sub_c (Or.inr rfl) (sub_c (Or.inr rfl) (sub_c (Or.inr rfl) (sub_c (Or.inr rfl) (sub_c (Or.inl rfl) sub_n)))))) h
    · replace h := h.2 hc
      refine g_iconst (v := (1 : Int32)) dX7_keeperFor_27 (by decide) ?_
      refine g_aload_n (i := 0) dX7_keeperFor_28 rfl rfl ?_
      refine g_iload_n (i := 1) dX7_keeperFor_29 rfl rfl ?_
      refine g_iload_n (i := 3) dX7_keeperFor_30 rfl rfl ?_
      refine g_iload (i := 5) dX7_keeperFor_31 rfl ?_
      refine g_ior dX7_keeperFor_33 ?_
      refine gc_RX7_36 rfl (Nat.le_of_ble_eq_true rfl) dX7_keeperFor_34 sh_102 (Nat.le_of_ble_eq_true rfl) ?_
      refine Cl.mono h (fun r1 M1 h => ?_)
      refine g_iadd dX7_keeperFor_37 ?_
      refine g_aload_n (i := 0) dX7_keeperFor_38 rfl rfl ?_
      refine gf_RX7_11 rfl dX7_keeperFor_39 sh_102 ?_
      refine g_iload_n (i := 1) dX7_keeperFor_42 rfl rfl ?_
      refine g_sipush (v := (256 : Int32)) dX7_keeperFor_43 (by decide) ?_
      refine g_imul dX7_keeperFor_46 ?_
      refine g_iload_n (i := 3) dX7_keeperFor_47 rfl rfl ?_
      refine g_iadd dX7_keeperFor_48 ?_
      have hv1 := h.1; replace h := h.2
      refine g_iald dX7_keeperFor_49 sh_103 hv1 ?_
      refine g_icmp_ne (tgt := 56) dX7_keeperFor_50 rfl ⟨fun hc => ?_, fun hc => ?_⟩
      · replace h := h.1 hc
        refine g_iload (i := 4) dX7_keeperFor_53 rfl ?_
        exact g_iret dX7_keeperFor_55 rfl h
      · replace h := h.2 hc
        exact g_sub _ (sub_c (Or.inr rfl) (sub_c (Or.inr rfl) (sub_c (Or.inr rfl) (sub_c (Or.inr rfl) (sub_c (Or.inr rfl) (sub_c (Or.inl rfl) sub_n)))))) h
theorem bX7_keeperFor_56 {κ : gK} {M : MM} {Q : Int32 → MM → Prop} (l1 : Int32) (l2 : Int32) (l3 : Int32) (l4 : Int32)
    (h : G κ mX7_keeperFor 3 [.ref 102, .int l1, .int l2, .int l3, .int (l4 + 1), .null] [] M Q) :
    G κ mX7_keeperFor 56 [.ref 102, .int l1, .int l2, .int l3, .int l4, .null] [] M Q := by
  refine g_iinc (v := (l4 + 1)) (L' := [.ref 102, .int l1, .int l2, .int l3, .int (l4 + 1), .null]) dX7_keeperFor_56 rfl rfl (Nat.le_of_ble_eq_true rfl) rfl rfl ?_
  refine g_goto (tgt := 3) dX7_keeperFor_59 rfl ?_
  exact h
theorem eX7_keeperFor {κ : gK} {M : MM} {Q : Int32 → MM → Prop} (l1 : Int32) (l2 : Int32) (l3 : Int32)
    (h : G κ mX7_keeperFor 0 [.ref 102, .int l1, .int l2, .int l3, .null, .null] [] M Q) : Cl κ mX7_keeperFor [.ref 102, .int l1, .int l2, .int l3] M Q := g_entry 2 pl_X7_keeperFor (Nat.le_of_ble_eq_true rfl) (L := [.ref 102, .int l1, .int l2, .int l3, .null, .null]) rfl (g_sub _ (sub_c (Or.inr rfl) (sub_c (Or.inr rfl) (sub_c (Or.inr rfl) (sub_c (Or.inr rfl) (sub_c (Or.inr rfl) (sub_c (Or.inr rfl) sub_n)))))) h)
