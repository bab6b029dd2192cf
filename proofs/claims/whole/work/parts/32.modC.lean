theorem dX11_person_0 : decode cX11_person 0 = .ok (.aload_n 0, 1) := by decide +kernel
theorem dX11_person_1 : decode cX11_person 1 = .ok (.iload_n 1, 1) := by decide +kernel
theorem dX11_person_2 : decode cX11_person 2 = .ok (.invokevirtual 195, 3) := by decide +kernel
theorem dX11_person_5 : decode cX11_person 5 = .ok (.ifCond .ne 6, 3) := by decide +kernel
theorem dX11_person_8 : decode cX11_person 8 = .ok (.ldc 199, 2) := by decide +kernel
theorem dX11_person_10 : decode cX11_person 10 = .ok (.ireturn, 1) := by decide +kernel
theorem dX11_person_11 : decode cX11_person 11 = .ok (.iload_n 2, 1) := by decide +kernel
theorem dX11_person_12 : decode cX11_person 12 = .ok (.tableswitch 75 0 4 #[36, 43, 49, 59, 69], 36) := by decide +kernel
theorem dX11_person_48 : decode cX11_person 48 = .ok (.aload_n 0, 1) := by decide +kernel
theorem dX11_person_49 : decode cX11_person 49 = .ok (.getfield 7, 3) := by decide +kernel
theorem dX11_person_52 : decode cX11_person 52 = .ok (.iload_n 1, 1) := by decide +kernel
theorem dX11_person_53 : decode cX11_person 53 = .ok (.iaload, 1) := by decide +kernel
theorem dX11_person_54 : decode cX11_person 54 = .ok (.ireturn, 1) := by decide +kernel
theorem dX11_person_55 : decode cX11_person 55 = .ok (.aload_n 0, 1) := by decide +kernel
theorem dX11_person_56 : decode cX11_person 56 = .ok (.iload_n 1, 1) := by decide +kernel
theorem dX11_person_57 : decode cX11_person 57 = .ok (.invokevirtual 70, 3) := by decide +kernel
theorem dX11_person_60 : decode cX11_person 60 = .ok (.ireturn, 1) := by decide +kernel
theorem dX11_person_61 : decode cX11_person 61 = .ok (.aload_n 0, 1) := by decide +kernel
theorem dX11_person_62 : decode cX11_person 62 = .ok (.getfield 16, 3) := by decide +kernel
theorem dX11_person_65 : decode cX11_person 65 = .ok (.bipush 10, 2) := by decide +kernel
theorem dX11_person_67 : decode cX11_person 67 = .ok (.iload_n 1, 1) := by decide +kernel
theorem dX11_person_68 : decode cX11_person 68 = .ok (.iadd, 1) := by decide +kernel
theorem dX11_person_69 : decode cX11_person 69 = .ok (.iaload, 1) := by decide +kernel
theorem dX11_person_70 : decode cX11_person 70 = .ok (.ireturn, 1) := by decide +kernel
theorem dX11_person_71 : decode cX11_person 71 = .ok (.aload_n 0, 1) := by decide +kernel
theorem dX11_person_72 : decode cX11_person 72 = .ok (.getfield 16, 3) := by decide +kernel
theorem dX11_person_75 : decode cX11_person 75 = .ok (.bipush 18, 2) := by decide +kernel
theorem dX11_person_77 : decode cX11_person 77 = .ok (.iload_n 1, 1) := by decide +kernel
theorem dX11_person_78 : decode cX11_person 78 = .ok (.iadd, 1) := by decide +kernel
theorem dX11_person_79 : decode cX11_person 79 = .ok (.iaload, 1) := by decide +kernel
theorem dX11_person_80 : decode cX11_person 80 = .ok (.ireturn, 1) := by decide +kernel
theorem dX11_person_81 : decode cX11_person 81 = .ok (.aload_n 0, 1) := by decide +kernel
theorem dX11_person_82 : decode cX11_person 82 = .ok (.iload_n 1, 1) := by decide +kernel
theorem dX11_person_83 : decode cX11_person 83 = .ok (.invokevirtual 200, 3) := by decide +kernel
theorem dX11_person_86 : decode cX11_person 86 = .ok (.ireturn, 1) := by decide +kernel
theorem dX11_person_87 : decode cX11_person 87 = .ok (.ldc 112, 2) := by decide +kernel
theorem dX11_person_89 : decode cX11_person 89 = .ok (.ireturn, 1) := by decide +kernel
theorem bX11_person_0 {κ : gK} {M : MM} {Q : Int32 → MM → Prop} (l1 : Int32) (l2 : Int32)
    (h : Cl κ mX11_isPerson [.ref 119, .int l1] M (fun r1 M1 => ((r1 = 0 → Q (-1000000001 : Int32) M1) ∧ (¬ r1 = 0 → ((l2 = (0 : Int32) → (vp_in l1 8) ∧ (Q (M1 120 (l1).toNatClampNeg) M1)) ∧ (l2 = (1 : Int32) → Cl κ mX11_layersOf [.ref 119, .int l1] M1 (fun r2 M2 => Q r2 M2)) ∧ (l2 = (2 : Int32) → (vp_in ((10 : Int32) + l1) 26) ∧ (Q (M1 122 (((10 : Int32) + l1)).toNatClampNeg) M1)) ∧ (l2 = (3 : Int32) → (vp_in ((18 : Int32) + l1) 26) ∧ (Q (M1 122 (((18 : Int32) + l1)).toNatClampNeg) M1)) ∧ (l2 = (4 : Int32) → Cl κ mX11_meets [.ref 119, .int l1] M1 (fun r3 M3 => Q r3 M3)) ∧ ((∀ k : Nat, k ≤ 4 → l2 ≠ nI k) → Q (-1000000002 : Int32) M1)))))) :
    G κ mX11_person 0 [.ref 119, .int l1, .int l2] [] M Q := by
  refine g_aload_n (i := 0) dX11_person_0 rfl rfl ?_
  refine g_iload_n (i := 1) dX11_person_1 rfl rfl ?_
  refine gc_RX11_195 rfl (Nat.le_of_ble_eq_true rfl) dX11_person_2 sh_119 (Nat.le_of_ble_eq_true rfl) ?_
  refine Cl.mono h (fun r1 M1 h => ?_)
  refine g_if_ne (tgt := 11) dX11_person_5 rfl ⟨fun hc => ?_, fun hc => ?_⟩
  · replace h := h.1 hc
    refine g_ldc dX11_person_8 wt_984 ?_
    exact g_iret dX11_person_10 rfl h
  · replace h := h.2 hc
    refine g_iload_n (i := 2) dX11_person_11 rfl rfl ?_
    refine g_tab (hi := 4) (dt := 87) (fun k => ([48, 55, 61, 71, 81] : List Nat).getD k 0) dX11_person_12 (by decide) (by decide) rfl (fun k hk hx => ?_) (fun hx => ?_)
    · rcases (show k = 0 ∨ k = 1 ∨ k = 2 ∨ k = 3 ∨ k = 4 by omega) with rfl | rfl | rfl | rfl | rfl
      · replace h := h.1 hx
        show G κ mX11_person 48 _ _ _ _
        refine g_aload_n (i := 0) dX11_person_48 rfl rfl ?_
        refine gf_RX11_7 rfl dX11_person_49 sh_119 ?_
        refine g_iload_n (i := 1) dX11_person_52 rfl rfl ?_
        have hv1 := h.1; replace h := h.2
        refine g_iald dX11_person_53 sh_120 hv1 ?_
        exact g_iret dX11_person_54 rfl h
      · replace h := h.2.1 hx
        show G κ mX11_person 55 _ _ _ _
        refine g_aload_n (i := 0) dX11_person_55 rfl rfl ?_
        refine g_iload_n (i := 1) dX11_person_56 rfl rfl ?_
        refine gc_RX11_70 rfl (Nat.le_of_ble_eq_true rfl) dX11_person_57 sh_119 (Nat.le_of_ble_eq_true rfl) ?_
        refine Cl.mono h (fun r2 M2 h => ?_)
        exact g_iret dX11_person_60 rfl h
      · replace h := h.2.2.1 hx
        show G κ mX11_person 61 _ _ _ _
        refine g_aload_n (i := 0) dX11_person_61 rfl rfl ?_
        refine gf_RX11_16 rfl dX11_person_62 sh_119 ?_
        refine g_bipush (v := (10 : Int32)) dX11_person_65 (by decide) ?_
        refine g_iload_n (i := 1) dX11_person_67 rfl rfl ?_
        refine g_iadd dX11_person_68 ?_
        have hv2 := h.1; replace h := h.2
        refine g_iald dX11_person_69 sh_122 hv2 ?_
        exact g_iret dX11_person_70 rfl h
      · replace h := h.2.2.2.1 hx
        show G κ mX11_person 71 _ _ _ _
        refine g_aload_n (i := 0) dX11_person_71 rfl rfl ?_
        refine gf_RX11_16 rfl dX11_person_72 sh_119 ?_
        refine g_bipush (v := (18 : Int32)) dX11_person_75 (by decide) ?_
        refine g_iload_n (i := 1) dX11_person_77 rfl rfl ?_
        refine g_iadd dX11_person_78 ?_
        have hv3 := h.1; replace h := h.2
        refine g_iald dX11_person_79 sh_122 hv3 ?_
        exact g_iret dX11_person_80 rfl h
      · replace h := h.2.2.2.2.1 hx
        show G κ mX11_person 81 _ _ _ _
        refine g_aload_n (i := 0) dX11_person_81 rfl rfl ?_
        refine g_iload_n (i := 1) dX11_person_82 rfl rfl ?_
        refine gc_RX11_200 rfl (Nat.le_of_ble_eq_true rfl) dX11_person_83 sh_119 (Nat.le_of_ble_eq_true rfl) ?_
        refine Cl.mono h (fun r3 M3 h => ?_)
        exact g_iret dX11_person_86 rfl h
    · replace h := h.2.2.2.2.2 hx
      refine g_ldc dX11_person_87 wt_873 ?_
      exact g_iret dX11_person_89 rfl h
theorem eX11_person {κ : gK} {M : MM} {Q : Int32 → MM → Prop} (l1 : Int32) (l2 : Int32)
    (h : G κ mX11_person 0 [.ref 119, .int l1, .int l2] [] M Q) : Cl κ mX11_person [.ref 119, .int l1, .int l2] M Q := g_entry 0 pl_X11_person (Nat.le_of_ble_eq_true rfl) (L := [.ref 119, .int l1, .int l2]) rfl (g_sub _ (sub_c (Or.inr rfl) (sub_c (Or.inr rfl) (sub_c (Or.inr rfl) sub_n))) h)
theorem dX11_onLayer_0 : decode cX11_onLayer 0 = .ok (.aload_n 0, 1) := by decide +kernel
theorem dX11_onLayer_1 : decode cX11_onLayer 1 = .ok (.iload_n 1, 1) := by decide +kernel
theorem dX11_onLayer_2 : decode cX11_onLayer 2 = .ok (.invokevirtual 203, 3) := by decide +kernel
theorem dX11_onLayer_5 : decode cX11_onLayer 5 = .ok (.ifCond .eq 11, 3) := by decide +kernel
theorem dX11_onLayer_8 : decode cX11_onLayer 8 = .ok (.aload_n 0, 1) := by decide +kernel
theorem dX11_onLayer_9 : decode cX11_onLayer 9 = .ok (.iload_n 1, 1) := by decide +kernel
theorem dX11_onLayer_10 : decode cX11_onLayer 10 = .ok (.invokevirtual 107, 3) := by decide +kernel
theorem dX11_onLayer_13 : decode cX11_onLayer 13 = .ok (.goto 5, 3) := by decide +kernel
theorem dX11_onLayer_16 : decode cX11_onLayer 16 = .ok (.ldc 199, 2) := by decide +kernel
theorem dX11_onLayer_18 : decode cX11_onLayer 18 = .ok (.ireturn, 1) := by decide +kernel
theorem bX11_onLayer_0 {κ : gK} {M : MM} {Q : Int32 → MM → Prop} (l1 : Int32)
    (h : Cl κ mX11_isLayer [.ref 119, .int l1] M (fun r1 M1 => ((r1 = 0 → G κ mX11_onLayer 18 [.null, .null] [.int (-1000000001 : Int32)] M1 Q) ∧ (¬ r1 = 0 → Cl κ mX11_whoOn [.ref 119, .int l1] M1 (fun r2 M2 => G κ mX11_onLayer 18 [.null, .null] [.int r2] M2 Q))))) :
    G κ mX11_onLayer 0 [.ref 119, .int l1] [] M Q := by
  refine g_aload_n (i := 0) dX11_onLayer_0 rfl rfl ?_
  refine g_iload_n (i := 1) dX11_onLayer_1 rfl rfl ?_
  refine gc_RX11_203 rfl (Nat.le_of_ble_eq_true rfl) dX11_onLayer_2 sh_119 (Nat.le_of_ble_eq_true rfl) ?_
  refine Cl.mono h (fun r1 M1 h => ?_)
  refine g_if_eq (tgt := 16) dX11_onLayer_5 rfl ⟨fun hc => ?_, fun hc => ?_⟩
  · replace h := h.1 hc
    refine g_ldc dX11_onLayer_16 wt_984 ?_
    exact g_sub _ (sub_c (Or.inl rfl) (sub_c (Or.inl rfl) sub_n)) h
  · replace h := h.2 hc
    refine g_aload_n (i := 0) dX11_onLayer_8 rfl rfl ?_
    refine g_iload_n (i := 1) dX11_onLayer_9 rfl rfl ?_
    refine gc_RX11_107 rfl (Nat.le_of_ble_eq_true rfl) dX11_onLayer_10 sh_119 (Nat.le_of_ble_eq_true rfl) ?_
    refine Cl.mono h (fun r2 M2 h => ?_)
    refine g_goto (tgt := 18) dX11_onLayer_13 rfl ?_
    exact g_sub _ (sub_c (Or.inl rfl) (sub_c (Or.inl rfl) sub_n)) h
theorem bX11_onLayer_18 {κ : gK} {M : MM} {Q : Int32 → MM → Prop} (s0 : Int32)
    (h : Q s0 M) :
    G κ mX11_onLayer 18 [.null, .null] [.int s0] M Q := by
  exact g_iret dX11_onLayer_18 rfl h
theorem eX11_onLayer {κ : gK} {M : MM} {Q : Int32 → MM → Prop} (l1 : Int32)
    (h : G κ mX11_onLayer 0 [.ref 119, .int l1] [] M Q) : Cl κ mX11_onLayer [.ref 119, .int l1] M Q := g_entry 0 pl_X11_onLayer (Nat.le_of_ble_eq_true rfl) (L := [.ref 119, .int l1]) rfl (g_sub _ (sub_c (Or.inr rfl) (sub_c (Or.inr rfl) sub_n)) h)
theorem dX11_notes_0 : decode cX11_notes 0 = .ok (.aload_n 0, 1) := by decide +kernel
theorem dX11_notes_1 : decode cX11_notes 1 = .ok (.getfield 176, 3) := by decide +kernel
theorem dX11_notes_4 : decode cX11_notes 4 = .ok (.bipush 16, 2) := by decide +kernel
theorem dX11_notes_6 : decode cX11_notes 6 = .ok (.if_icmp .ne 40, 3) := by decide +kernel
theorem dX11_notes_9 : decode cX11_notes 9 = .ok (.bipush 26, 2) := by decide +kernel
theorem dX11_notes_11 : decode cX11_notes 11 = .ok (.istore_n 1, 1) := by decide +kernel
theorem dX11_notes_12 : decode cX11_notes 12 = .ok (.iload_n 1, 1) := by decide +kernel
theorem dX11_notes_13 : decode cX11_notes 13 = .ok (.sipush 416, 3) := by decide +kernel
theorem dX11_notes_16 : decode cX11_notes 16 = .ok (.if_icmp .ge 24, 3) := by decide +kernel
theorem dX11_notes_19 : decode cX11_notes 19 = .ok (.aload_n 0, 1) := by decide +kernel
theorem dX11_notes_20 : decode cX11_notes 20 = .ok (.getfield 32, 3) := by decide +kernel
theorem dX11_notes_23 : decode cX11_notes 23 = .ok (.iload_n 1, 1) := by decide +kernel
theorem dX11_notes_24 : decode cX11_notes 24 = .ok (.bipush 26, 2) := by decide +kernel
theorem dX11_notes_26 : decode cX11_notes 26 = .ok (.isub, 1) := by decide +kernel
theorem dX11_notes_27 : decode cX11_notes 27 = .ok (.aload_n 0, 1) := by decide +kernel
theorem dX11_notes_28 : decode cX11_notes 28 = .ok (.getfield 32, 3) := by decide +kernel
theorem dX11_notes_31 : decode cX11_notes 31 = .ok (.iload_n 1, 1) := by decide +kernel
theorem dX11_notes_32 : decode cX11_notes 32 = .ok (.iaload, 1) := by decide +kernel
theorem dX11_notes_33 : decode cX11_notes 33 = .ok (.iastore, 1) := by decide +kernel
theorem dX11_notes_34 : decode cX11_notes 34 = .ok (.iinc 1 1, 3) := by decide +kernel
theorem dX11_notes_37 : decode cX11_notes 37 = .ok (.goto (-25), 3) := by decide +kernel
theorem dX11_notes_40 : decode cX11_notes 40 = .ok (.aload_n 0, 1) := by decide +kernel
theorem dX11_notes_41 : decode cX11_notes 41 = .ok (.bipush 15, 2) := by decide +kernel
theorem dX11_notes_43 : decode cX11_notes 43 = .ok (.putfield 176, 3) := by decide +kernel
theorem dX11_notes_46 : decode cX11_notes 46 = .ok (.iconst 0, 1) := by decide +kernel
theorem dX11_notes_47 : decode cX11_notes 47 = .ok (.istore_n 1, 1) := by decide +kernel
theorem dX11_notes_48 : decode cX11_notes 48 = .ok (.iload_n 1, 1) := by decide +kernel
theorem dX11_notes_49 : decode cX11_notes 49 = .ok (.bipush 26, 2) := by decide +kernel
theorem dX11_notes_51 : decode cX11_notes 51 = .ok (.if_icmp .ge 29, 3) := by decide +kernel
theorem dX11_notes_54 : decode cX11_notes 54 = .ok (.aload_n 0, 1) := by decide +kernel
theorem dX11_notes_55 : decode cX11_notes 55 = .ok (.getfield 32, 3) := by decide +kernel
theorem dX11_notes_58 : decode cX11_notes 58 = .ok (.bipush 26, 2) := by decide +kernel
theorem dX11_notes_60 : decode cX11_notes 60 = .ok (.aload_n 0, 1) := by decide +kernel
theorem dX11_notes_61 : decode cX11_notes 61 = .ok (.getfield 176, 3) := by decide +kernel
theorem dX11_notes_64 : decode cX11_notes 64 = .ok (.imul, 1) := by decide +kernel
theorem dX11_notes_65 : decode cX11_notes 65 = .ok (.iload_n 1, 1) := by decide +kernel
theorem dX11_notes_66 : decode cX11_notes 66 = .ok (.iadd, 1) := by decide +kernel
theorem dX11_notes_67 : decode cX11_notes 67 = .ok (.aload_n 0, 1) := by decide +kernel
theorem dX11_notes_68 : decode cX11_notes 68 = .ok (.getfield 16, 3) := by decide +kernel
theorem dX11_notes_71 : decode cX11_notes 71 = .ok (.iload_n 1, 1) := by decide +kernel
theorem dX11_notes_72 : decode cX11_notes 72 = .ok (.iaload, 1) := by decide +kernel
theorem dX11_notes_73 : decode cX11_notes 73 = .ok (.iastore, 1) := by decide +kernel
theorem dX11_notes_74 : decode cX11_notes 74 = .ok (.iinc 1 1, 3) := by decide +kernel
theorem dX11_notes_77 : decode cX11_notes 77 = .ok (.goto (-29), 3) := by decide +kernel
theorem dX11_notes_80 : decode cX11_notes 80 = .ok (.aload_n 0, 1) := by decide +kernel
theorem dX11_notes_81 : decode cX11_notes 81 = .ok (.dup, 1) := by decide +kernel
theorem dX11_notes_82 : decode cX11_notes 82 = .ok (.getfield 176, 3) := by decide +kernel
theorem dX11_notes_85 : decode cX11_notes 85 = .ok (.iconst 1, 1) := by decide +kernel
theorem dX11_notes_86 : decode cX11_notes 86 = .ok (.iadd, 1) := by decide +kernel
theorem dX11_notes_87 : decode cX11_notes 87 = .ok (.putfield 176, 3) := by decide +kernel
theorem dX11_notes_90 : decode cX11_notes 90 = .ok (.return_, 1) := by decide +kernel
theorem bX11_notes_0 {κ : gK} {M : MM} {Q : Int32 → MM → Prop} 
    (h : (((M 119 19) = (16 : Int32) → G κ mX11_notes 12 [.ref 119, .int (26 : Int32)] [] M Q) ∧ (¬ (M 119 19) = (16 : Int32) → G κ mX11_notes 46 [.ref 119, .null] [] M Q))) :
    G κ mX11_notes 0 [.ref 119, .null] [] M Q := by
  refine g_aload_n (i := 0) dX11_notes_0 rfl rfl ?_
  refine gf_RX11_176 rfl dX11_notes_1 sh_119 ?_
  refine g_bipush (v := (16 : Int32)) dX11_notes_4 (by decide) ?_
  refine g_icmp_ne (tgt := 46) dX11_notes_6 rfl ⟨fun hc => ?_, fun hc => ?_⟩
  · replace h := h.1 hc
    refine g_bipush (v := (26 : Int32)) dX11_notes_9 (by decide) ?_
    refine g_istore_n (i := 1) (L' := [.ref 119, .int (26 : Int32)]) dX11_notes_11 rfl (Nat.le_of_ble_eq_true rfl) rfl rfl ?_
    exact h
  · replace h := h.2 hc
    exact h
theorem bX11_notes_12 {κ : gK} {M : MM} {Q : Int32 → MM → Prop} (l1 : Int32)
    (h : (((416 : Int32) ≤ l1 → ∀ M1 : MM, M1 = (pt M 119 19 (15 : Int32)) → (G κ mX11_notes 46 [.ref 119, .null] [] M1 Q)) ∧ (¬ (416 : Int32) ≤ l1 → (vp_in l1 416) ∧ ((vp_in (l1 - (26 : Int32)) 416) ∧ (∀ M2 : MM, M2 = (pt M 126 ((l1 - (26 : Int32))).toNatClampNeg (M 126 (l1).toNatClampNeg)) → (G κ mX11_notes 12 [.ref 119, .int (l1 + 1)] [] M2 Q)))))) :
    G κ mX11_notes 12 [.ref 119, .int l1] [] M Q := by
  refine g_iload_n (i := 1) dX11_notes_12 rfl rfl ?_
  refine g_sipush (v := (416 : Int32)) dX11_notes_13 (by decide) ?_
  refine g_icmp_ge (tgt := 40) dX11_notes_16 rfl ⟨fun hc => ?_, fun hc => ?_⟩
  · replace h := h.1 hc
    refine g_aload_n (i := 0) dX11_notes_40 rfl rfl ?_
    refine g_bipush (v := (15 : Int32)) dX11_notes_41 (by decide) ?_
    refine gp_RX11_176 rfl dX11_notes_43 sh_119 ?_
    refine g_nmM (fun M1 hM1 => ?_); replace h := h M1 hM1
    exact g_sub _ (sub_c (Or.inr rfl) (sub_c (Or.inl rfl) sub_n)) h
  · replace h := h.2 hc
    refine g_aload_n (i := 0) dX11_notes_19 rfl rfl ?_
    refine gf_RX11_32 rfl dX11_notes_20 sh_119 ?_
    refine g_iload_n (i := 1) dX11_notes_23 rfl rfl ?_
    refine g_bipush (v := (26 : Int32)) dX11_notes_24 (by decide) ?_
    refine g_isub dX11_notes_26 ?_
    refine g_aload_n (i := 0) dX11_notes_27 rfl rfl ?_
    refine gf_RX11_32 rfl dX11_notes_28 sh_119 ?_
    refine g_iload_n (i := 1) dX11_notes_31 rfl rfl ?_
    have hv1 := h.1; replace h := h.2
    refine g_iald dX11_notes_32 sh_126 hv1 ?_
    have hv2 := h.1; replace h := h.2
    refine g_iastP dX11_notes_33 sh_126 hv2 ?_
    refine g_nmM (fun M2 hM2 => ?_); replace h := h M2 hM2
    refine g_iinc (v := (l1 + 1)) (L' := [.ref 119, .int (l1 + 1)]) dX11_notes_34 rfl rfl (Nat.le_of_ble_eq_true rfl) rfl rfl ?_
    refine g_goto (tgt := 12) dX11_notes_37 rfl ?_
    exact h
theorem bX11_notes_46 {κ : gK} {M : MM} {Q : Int32 → MM → Prop} 
    (h : G κ mX11_notes 48 [.ref 119, .int (0 : Int32)] [] M Q) :
    G κ mX11_notes 46 [.ref 119, .null] [] M Q := by
  refine g_iconst (v := (0 : Int32)) dX11_notes_46 (by decide) ?_
  refine g_istore_n (i := 1) (L' := [.ref 119, .int (0 : Int32)]) dX11_notes_47 rfl (Nat.le_of_ble_eq_true rfl) rfl rfl ?_
  exact h
theorem bX11_notes_48 {κ : gK} {M : MM} {Q : Int32 → MM → Prop} (l1 : Int32)
    (h : (((26 : Int32) ≤ l1 → ∀ M1 : MM, M1 = (pt M 119 19 ((M 119 19) + (1 : Int32))) → (Q 0 M1)) ∧ (¬ (26 : Int32) ≤ l1 → (vp_in l1 26) ∧ ((vp_in (((26 : Int32) * (M 119 19)) + l1) 416) ∧ (∀ M2 : MM, M2 = (pt M 126 ((((26 : Int32) * (M 119 19)) + l1)).toNatClampNeg (M 122 (l1).toNatClampNeg)) → (G κ mX11_notes 48 [.ref 119, .int (l1 + 1)] [] M2 Q)))))) :
    G κ mX11_notes 48 [.ref 119, .int l1] [] M Q := by
  refine g_iload_n (i := 1) dX11_notes_48 rfl rfl ?_
  refine g_bipush (v := (26 : Int32)) dX11_notes_49 (by decide) ?_
  refine g_icmp_ge (tgt := 80) dX11_notes_51 rfl ⟨fun hc => ?_, fun hc => ?_⟩
  · replace h := h.1 hc
    refine g_aload_n (i := 0) dX11_notes_80 rfl rfl ?_
    refine g_dup dX11_notes_81 rfl ?_
    refine gf_RX11_176 rfl dX11_notes_82 sh_119 ?_
    refine g_iconst (v := (1 : Int32)) dX11_notes_85 (by decide) ?_
    refine g_iadd dX11_notes_86 ?_
    refine gp_RX11_176 rfl dX11_notes_87 sh_119 ?_
    refine g_nmM (fun M1 hM1 => ?_); replace h := h M1 hM1
    exact g_vret dX11_notes_90 rfl h
  · replace h := h.2 hc
    refine g_aload_n (i := 0) dX11_notes_54 rfl rfl ?_
    refine gf_RX11_32 rfl dX11_notes_55 sh_119 ?_
    refine g_bipush (v := (26 : Int32)) dX11_notes_58 (by decide) ?_
    refine g_aload_n (i := 0) dX11_notes_60 rfl rfl ?_
    refine gf_RX11_176 rfl dX11_notes_61 sh_119 ?_
    refine g_imul dX11_notes_64 ?_
    refine g_iload_n (i := 1) dX11_notes_65 rfl rfl ?_
    refine g_iadd dX11_notes_66 ?_
    refine g_aload_n (i := 0) dX11_notes_67 rfl rfl ?_
    refine gf_RX11_16 rfl dX11_notes_68 sh_119 ?_
    refine g_iload_n (i := 1) dX11_notes_71 rfl rfl ?_
    have hv1 := h.1; replace h := h.2
    refine g_iald dX11_notes_72 sh_122 hv1 ?_
    have hv2 := h.1; replace h := h.2
    refine g_iastP dX11_notes_73 sh_126 hv2 ?_
    refine g_nmM (fun M2 hM2 => ?_); replace h := h M2 hM2
    refine g_iinc (v := (l1 + 1)) (L' := [.ref 119, .int (l1 + 1)]) dX11_notes_74 rfl rfl (Nat.le_of_ble_eq_true rfl) rfl rfl ?_
    refine g_goto (tgt := 48) dX11_notes_77 rfl ?_
    exact h
theorem eX11_notes {κ : gK} {M : MM} {Q : Int32 → MM → Prop} 
    (h : G κ mX11_notes 0 [.ref 119, .null] [] M Q) : Cl κ mX11_notes [.ref 119] M Q := g_entry 1 pl_X11_notes (Nat.le_of_ble_eq_true rfl) (L := [.ref 119, .null]) rfl (g_sub _ (sub_c (Or.inr rfl) (sub_c (Or.inr rfl) sub_n)) h)
theorem dX11_dawn_0 : decode cX11_dawn 0 = .ok (.iload_n 1, 1) := by decide +kernel
theorem dX11_dawn_1 : decode cX11_dawn 1 = .ok (.i2l, 1) := by decide +kernel
theorem dX11_dawn_2 : decode cX11_dawn 2 = .ok (.lconst 1, 1) := by decide +kernel
theorem dX11_dawn_3 : decode cX11_dawn 3 = .ok (.ldc2_w 206, 3) := by decide +kernel
theorem dX11_dawn_6 : decode cX11_dawn 6 = .ok (.invokestatic 63, 3) := by decide +kernel
theorem dX11_dawn_9 : decode cX11_dawn 9 = .ok (.ifCond .ne 6, 3) := by decide +kernel
theorem dX11_dawn_12 : decode cX11_dawn 12 = .ok (.ldc 112, 2) := by decide +kernel
theorem dX11_dawn_14 : decode cX11_dawn 14 = .ok (.ireturn, 1) := by decide +kernel
theorem dX11_dawn_15 : decode cX11_dawn 15 = .ok (.aload_n 0, 1) := by decide +kernel
theorem dX11_dawn_16 : decode cX11_dawn 16 = .ok (.invokevirtual 179, 3) := by decide +kernel
theorem dX11_dawn_19 : decode cX11_dawn 19 = .ok (.ifCond .ne 6, 3) := by decide +kernel
theorem dX11_dawn_22 : decode cX11_dawn 22 = .ok (.ldc 208, 2) := by decide +kernel
theorem dX11_dawn_24 : decode cX11_dawn 24 = .ok (.ireturn, 1) := by decide +kernel
theorem dX11_dawn_25 : decode cX11_dawn 25 = .ok (.aload_n 0, 1) := by decide +kernel
theorem dX11_dawn_26 : decode cX11_dawn 26 = .ok (.getfield 16, 3) := by decide +kernel
theorem dX11_dawn_29 : decode cX11_dawn 29 = .ok (.iconst 0, 1) := by decide +kernel
theorem dX11_dawn_30 : decode cX11_dawn 30 = .ok (.iaload, 1) := by decide +kernel
theorem dX11_dawn_31 : decode cX11_dawn 31 = .ok (.sipush 9000, 3) := by decide +kernel
theorem dX11_dawn_34 : decode cX11_dawn 34 = .ok (.if_icmp .le 6, 3) := by decide +kernel
theorem dX11_dawn_37 : decode cX11_dawn 37 = .ok (.ldc 116, 2) := by decide +kernel
theorem dX11_dawn_39 : decode cX11_dawn 39 = .ok (.ireturn, 1) := by decide +kernel
theorem dX11_dawn_40 : decode cX11_dawn 40 = .ok (.aload_n 0, 1) := by decide +kernel
theorem dX11_dawn_41 : decode cX11_dawn 41 = .ok (.invokevirtual 209, 3) := by decide +kernel
theorem dX11_dawn_44 : decode cX11_dawn 44 = .ok (.aload_n 0, 1) := by decide +kernel
theorem dX11_dawn_45 : decode cX11_dawn 45 = .ok (.iload_n 1, 1) := by decide +kernel
theorem dX11_dawn_46 : decode cX11_dawn 46 = .ok (.invokevirtual 212, 3) := by decide +kernel
theorem dX11_dawn_49 : decode cX11_dawn 49 = .ok (.aload_n 0, 1) := by decide +kernel
theorem dX11_dawn_50 : decode cX11_dawn 50 = .ok (.getfield 16, 3) := by decide +kernel
theorem dX11_dawn_53 : decode cX11_dawn 53 = .ok (.iconst 0, 1) := by decide +kernel
theorem dX11_dawn_54 : decode cX11_dawn 54 = .ok (.iaload, 1) := by decide +kernel
theorem dX11_dawn_55 : decode cX11_dawn 55 = .ok (.ireturn, 1) := by decide +kernel
theorem bX11_dawn_0 {κ : gK} {M : MM} {Q : Int32 → MM → Prop} (l1 : Int32)
    (h : Cl κ mX11_in [.long (l1).toInt64, .long (1 : Int64), .long (60 : Int64)] M (fun r1 M1 => ((r1 = 0 → Q (-1000000002 : Int32) M1) ∧ (¬ r1 = 0 → Cl κ mX11_isTown [.ref 119] M1 (fun r2 M2 => ((r2 = 0 → Q (-1000000003 : Int32) M2) ∧ (¬ r2 = 0 → (((M2 122 0) ≤ (9000 : Int32) → Cl κ mX11_notes [.ref 119] M2 (fun _ M3 => Cl κ mX11_goesOn [.ref 119, .int l1] M3 (fun _ M4 => Q (M4 122 0) M4))) ∧ (¬ (M2 122 0) ≤ (9000 : Int32) → Q (-1000000004 : Int32) M2))))))))) :
    G κ mX11_dawn 0 [.ref 119, .int l1] [] M Q := by
  refine g_iload_n (i := 1) dX11_dawn_0 rfl rfl ?_
  refine g_i2l dX11_dawn_1 ?_
  refine g_lconst (v := (1 : Int64)) dX11_dawn_2 (by decide) ?_
  refine g_ldc2 dX11_dawn_3 wt_1001 ?_
  refine gc_RX11_63 rfl (Nat.le_of_ble_eq_true rfl) dX11_dawn_6 (Nat.le_of_ble_eq_true rfl) ?_
  refine Cl.mono h (fun r1 M1 h => ?_)
  refine g_if_ne (tgt := 15) dX11_dawn_9 rfl ⟨fun hc => ?_, fun hc => ?_⟩
  · replace h := h.1 hc
    refine g_ldc dX11_dawn_12 wt_873 ?_
    exact g_iret dX11_dawn_14 rfl h
  · replace h := h.2 hc
    refine g_aload_n (i := 0) dX11_dawn_15 rfl rfl ?_
    refine gc_RX11_179 rfl (Nat.le_of_ble_eq_true rfl) dX11_dawn_16 sh_119 (Nat.le_of_ble_eq_true rfl) ?_
    refine Cl.mono h (fun r2 M2 h => ?_)
    refine g_if_ne (tgt := 25) dX11_dawn_19 rfl ⟨fun hc => ?_, fun hc => ?_⟩
    · replace h := h.1 hc
      refine g_ldc dX11_dawn_22 wt_1002 ?_
      exact g_iret dX11_dawn_24 rfl h
    · replace h := h.2 hc
      refine g_aload_n (i := 0) dX11_dawn_25 rfl rfl ?_
      refine gf_RX11_16 rfl dX11_dawn_26 sh_119 ?_
      refine g_iconst (v := (0 : Int32)) dX11_dawn_29 (by decide) ?_
      refine g_iald dX11_dawn_30 sh_122 (by unfold vp_in; decide) ?_
      refine g_sipush (v := (9000 : Int32)) dX11_dawn_31 (by decide) ?_
      refine g_icmp_le (tgt := 40) dX11_dawn_34 rfl ⟨fun hc => ?_, fun hc => ?_⟩
      · replace h := h.1 hc
        refine g_aload_n (i := 0) dX11_dawn_40 rfl rfl ?_
        refine gc_RX11_209 rfl (Nat.le_of_ble_eq_true rfl) dX11_dawn_41 sh_119 (Nat.le_of_ble_eq_true rfl) ?_
        refine Cl.mono h (fun r3 M3 h => ?_)
        refine g_aload_n (i := 0) dX11_dawn_44 rfl rfl ?_
        refine g_iload_n (i := 1) dX11_dawn_45 rfl rfl ?_
        refine gc_RX11_212 rfl (Nat.le_of_ble_eq_true rfl) dX11_dawn_46 sh_119 (Nat.le_of_ble_eq_true rfl) ?_
        refine Cl.mono h (fun r4 M4 h => ?_)
        refine g_aload_n (i := 0) dX11_dawn_49 rfl rfl ?_
        refine gf_RX11_16 rfl dX11_dawn_50 sh_119 ?_
        refine g_iconst (v := (0 : Int32)) dX11_dawn_53 (by decide) ?_
        refine g_iald dX11_dawn_54 sh_122 (by unfold vp_in; decide) ?_
        exact g_iret dX11_dawn_55 rfl h
      · replace h := h.2 hc
        refine g_ldc dX11_dawn_37 wt_874 ?_
        exact g_iret dX11_dawn_39 rfl h
theorem eX11_dawn {κ : gK} {M : MM} {Q : Int32 → MM → Prop} (l1 : Int32)
    (h : G κ mX11_dawn 0 [.ref 119, .int l1] [] M Q) : Cl κ mX11_dawn [.ref 119, .int l1] M Q := g_entry 0 pl_X11_dawn (Nat.le_of_ble_eq_true rfl) (L := [.ref 119, .int l1]) rfl (g_sub _ (sub_c (Or.inr rfl) (sub_c (Or.inr rfl) sub_n)) h)
theorem dX11_crow_0 : decode cX11_crow 0 = .ok (.iload_n 1, 1) := by decide +kernel
theorem dX11_crow_1 : decode cX11_crow 1 = .ok (.i2l, 1) := by decide +kernel
theorem dX11_crow_2 : decode cX11_crow 2 = .ok (.lconst 1, 1) := by decide +kernel
theorem dX11_crow_3 : decode cX11_crow 3 = .ok (.ldc2_w 215, 3) := by decide +kernel
theorem dX11_crow_6 : decode cX11_crow 6 = .ok (.invokestatic 63, 3) := by decide +kernel
theorem dX11_crow_9 : decode cX11_crow 9 = .ok (.ifCond .ne 6, 3) := by decide +kernel
theorem dX11_crow_12 : decode cX11_crow 12 = .ok (.ldc 112, 2) := by decide +kernel
theorem dX11_crow_14 : decode cX11_crow 14 = .ok (.ireturn, 1) := by decide +kernel
theorem dX11_crow_15 : decode cX11_crow 15 = .ok (.aload_n 0, 1) := by decide +kernel
theorem dX11_crow_16 : decode cX11_crow 16 = .ok (.invokevirtual 179, 3) := by decide +kernel
theorem dX11_crow_19 : decode cX11_crow 19 = .ok (.ifCond .ne 6, 3) := by decide +kernel
theorem dX11_crow_22 : decode cX11_crow 22 = .ok (.ldc 208, 2) := by decide +kernel
theorem dX11_crow_24 : decode cX11_crow 24 = .ok (.ireturn, 1) := by decide +kernel
theorem dX11_crow_25 : decode cX11_crow 25 = .ok (.aload_n 0, 1) := by decide +kernel
theorem dX11_crow_26 : decode cX11_crow 26 = .ok (.invokevirtual 209, 3) := by decide +kernel
theorem dX11_crow_29 : decode cX11_crow 29 = .ok (.aload_n 0, 1) := by decide +kernel
theorem dX11_crow_30 : decode cX11_crow 30 = .ok (.iload_n 1, 1) := by decide +kernel
theorem dX11_crow_31 : decode cX11_crow 31 = .ok (.invokevirtual 92, 3) := by decide +kernel
theorem dX11_crow_34 : decode cX11_crow 34 = .ok (.aload_n 0, 1) := by decide +kernel
theorem dX11_crow_35 : decode cX11_crow 35 = .ok (.iload_n 1, 1) := by decide +kernel
theorem dX11_crow_36 : decode cX11_crow 36 = .ok (.invokevirtual 81, 3) := by decide +kernel
theorem dX11_crow_39 : decode cX11_crow 39 = .ok (.ireturn, 1) := by decide +kernel
theorem bX11_crow_0 {κ : gK} {M : MM} {Q : Int32 → MM → Prop} (l1 : Int32)
    (h : Cl κ mX11_in [.long (l1).toInt64, .long (1 : Int64), .long (9 : Int64)] M (fun r1 M1 => ((r1 = 0 → Q (-1000000002 : Int32) M1) ∧ (¬ r1 = 0 → Cl κ mX11_isTown [.ref 119] M1 (fun r2 M2 => ((r2 = 0 → Q (-1000000003 : Int32) M2) ∧ (¬ r2 = 0 → Cl κ mX11_notes [.ref 119] M2 (fun _ M3 => Cl κ mX11_sounds [.ref 119, .int l1] M3 (fun _ M4 => Cl κ mX11_hears [.ref 119, .int l1] M4 (fun r5 M5 => Q r5 M5)))))))))) :
    G κ mX11_crow 0 [.ref 119, .int l1] [] M Q := by
  refine g_iload_n (i := 1) dX11_crow_0 rfl rfl ?_
  refine g_i2l dX11_crow_1 ?_
  refine g_lconst (v := (1 : Int64)) dX11_crow_2 (by decide) ?_
  refine g_ldc2 dX11_crow_3 wt_1028 ?_
  refine gc_RX11_63 rfl (Nat.le_of_ble_eq_true rfl) dX11_crow_6 (Nat.le_of_ble_eq_true rfl) ?_
  refine Cl.mono h (fun r1 M1 h => ?_)
  refine g_if_ne (tgt := 15) dX11_crow_9 rfl ⟨fun hc => ?_, fun hc => ?_⟩
  · replace h := h.1 hc
    refine g_ldc dX11_crow_12 wt_873 ?_
    exact g_iret dX11_crow_14 rfl h
  · replace h := h.2 hc
    refine g_aload_n (i := 0) dX11_crow_15 rfl rfl ?_
    refine gc_RX11_179 rfl (Nat.le_of_ble_eq_true rfl) dX11_crow_16 sh_119 (Nat.le_of_ble_eq_true rfl) ?_
    refine Cl.mono h (fun r2 M2 h => ?_)
    refine g_if_ne (tgt := 25) dX11_crow_19 rfl ⟨fun hc => ?_, fun hc => ?_⟩
    · replace h := h.1 hc
      refine g_ldc dX11_crow_22 wt_1002 ?_
      exact g_iret dX11_crow_24 rfl h
    · replace h := h.2 hc
      refine g_aload_n (i := 0) dX11_crow_25 rfl rfl ?_
      refine gc_RX11_209 rfl (Nat.le_of_ble_eq_true rfl) dX11_crow_26 sh_119 (Nat.le_of_ble_eq_true rfl) ?_
      refine Cl.mono h (fun r3 M3 h => ?_)
      refine g_aload_n (i := 0) dX11_crow_29 rfl rfl ?_
      refine g_iload_n (i := 1) dX11_crow_30 rfl rfl ?_
      refine gc_RX11_92 rfl (Nat.le_of_ble_eq_true rfl) dX11_crow_31 sh_119 (Nat.le_of_ble_eq_true rfl) ?_
      refine Cl.mono h (fun r4 M4 h => ?_)
      refine g_aload_n (i := 0) dX11_crow_34 rfl rfl ?_
      refine g_iload_n (i := 1) dX11_crow_35 rfl rfl ?_
      refine gc_RX11_81 rfl (Nat.le_of_ble_eq_true rfl) dX11_crow_36 sh_119 (Nat.le_of_ble_eq_true rfl) ?_
      refine Cl.mono h (fun r5 M5 h => ?_)
      exact g_iret dX11_crow_39 rfl h
theorem eX11_crow {κ : gK} {M : MM} {Q : Int32 → MM → Prop} (l1 : Int32)
    (h : G κ mX11_crow 0 [.ref 119, .int l1] [] M Q) : Cl κ mX11_crow [.ref 119, .int l1] M Q := g_entry 0 pl_X11_crow (Nat.le_of_ble_eq_true rfl) (L := [.ref 119, .int l1]) rfl (g_sub _ (sub_c (Or.inr rfl) (sub_c (Or.inr rfl) sub_n)) h)
theorem dX11_step_0 : decode cX11_step 0 = .ok (.aload_n 0, 1) := by decide +kernel
theorem dX11_step_1 : decode cX11_step 1 = .ok (.iload_n 1, 1) := by decide +kernel
theorem dX11_step_2 : decode cX11_step 2 = .ok (.invokevirtual 195, 3) := by decide +kernel
theorem dX11_step_5 : decode cX11_step 5 = .ok (.ifCond .eq 11, 3) := by decide +kernel
theorem dX11_step_8 : decode cX11_step 8 = .ok (.aload_n 0, 1) := by decide +kernel
theorem dX11_step_9 : decode cX11_step 9 = .ok (.iload_n 2, 1) := by decide +kernel
theorem dX11_step_10 : decode cX11_step 10 = .ok (.invokevirtual 203, 3) := by decide +kernel
theorem dX11_step_13 : decode cX11_step 13 = .ok (.ifCond .ne 6, 3) := by decide +kernel
theorem dX11_step_16 : decode cX11_step 16 = .ok (.ldc 199, 2) := by decide +kernel
theorem dX11_step_18 : decode cX11_step 18 = .ok (.ireturn, 1) := by decide +kernel
theorem dX11_step_19 : decode cX11_step 19 = .ok (.aload_n 0, 1) := by decide +kernel
theorem dX11_step_20 : decode cX11_step 20 = .ok (.invokevirtual 209, 3) := by decide +kernel
theorem dX11_step_23 : decode cX11_step 23 = .ok (.aload_n 0, 1) := by decide +kernel
theorem dX11_step_24 : decode cX11_step 24 = .ok (.iload_n 1, 1) := by decide +kernel
theorem dX11_step_25 : decode cX11_step 25 = .ok (.invokevirtual 70, 3) := by decide +kernel
theorem dX11_step_28 : decode cX11_step 28 = .ok (.istore_n 3, 1) := by decide +kernel
theorem dX11_step_29 : decode cX11_step 29 = .ok (.aload_n 0, 1) := by decide +kernel
theorem dX11_step_30 : decode cX11_step 30 = .ok (.getfield 16, 3) := by decide +kernel
theorem dX11_step_33 : decode cX11_step 33 = .ok (.iconst 2, 1) := by decide +kernel
theorem dX11_step_34 : decode cX11_step 34 = .ok (.iload_n 1, 1) := by decide +kernel
theorem dX11_step_35 : decode cX11_step 35 = .ok (.iadd, 1) := by decide +kernel
theorem dX11_step_36 : decode cX11_step 36 = .ok (.iconst 1, 1) := by decide +kernel
theorem dX11_step_37 : decode cX11_step 37 = .ok (.iload_n 2, 1) := by decide +kernel
theorem dX11_step_38 : decode cX11_step 38 = .ok (.ishl, 1) := by decide +kernel
theorem dX11_step_39 : decode cX11_step 39 = .ok (.iastore, 1) := by decide +kernel
theorem dX11_step_40 : decode cX11_step 40 = .ok (.iload_n 3, 1) := by decide +kernel
theorem dX11_step_41 : decode cX11_step 41 = .ok (.ireturn, 1) := by decide +kernel
theorem bX11_step_0 {κ : gK} {M : MM} {Q : Int32 → MM → Prop} (l1 : Int32) (l2 : Int32)
    (h : Cl κ mX11_isPerson [.ref 119, .int l1] M (fun r1 M1 => ((r1 = 0 → G κ mX11_step 16 [.null, .null, .null, .null] [] M1 Q) ∧ (¬ r1 = 0 → Cl κ mX11_isLayer [.ref 119, .int l2] M1 (fun r2 M2 => ((r2 = 0 → G κ mX11_step 16 [.null, .null, .null, .null] [] M2 Q) ∧ (¬ r2 = 0 → Cl κ mX11_notes [.ref 119] M2 (fun _ M3 => Cl κ mX11_layersOf [.ref 119, .int l1] M3 (fun r4 M4 => (vp_in ((2 : Int32) + l1) 26) ∧ (∀ M5 : MM, M5 = (pt M4 122 (((2 : Int32) + l1)).toNatClampNeg (jshl (1 : Int32) l2)) → (Q r4 M5))))))))))) :
    G κ mX11_step 0 [.ref 119, .int l1, .int l2, .null] [] M Q := by
  refine g_aload_n (i := 0) dX11_step_0 rfl rfl ?_
  refine g_iload_n (i := 1) dX11_step_1 rfl rfl ?_
  refine gc_RX11_195 rfl (Nat.le_of_ble_eq_true rfl) dX11_step_2 sh_119 (Nat.le_of_ble_eq_true rfl) ?_
  refine Cl.mono h (fun r1 M1 h => ?_)
  refine g_if_eq (tgt := 16) dX11_step_5 rfl ⟨fun hc => ?_, fun hc => ?_⟩
  · replace h := h.1 hc
    exact g_sub _ (sub_c (Or.inl rfl) (sub_c (Or.inl rfl) (sub_c (Or.inl rfl) (sub_c (Or.inr rfl) sub_n)))) h
  · replace h := h.2 hc
    refine g_aload_n (i := 0) dX11_step_8 rfl rfl ?_
    refine g_iload_n (i := 2) dX11_step_9 rfl rfl ?_
    refine gc_RX11_203 rfl (Nat.le_of_ble_eq_true rfl) dX11_step_10 sh_119 (Nat.le_of_ble_eq_true rfl) ?_
    refine Cl.mono h (fun r2 M2 h => ?_)
    refine g_if_ne (tgt := 19) dX11_step_13 rfl ⟨fun hc => ?_, fun hc => ?_⟩
    · replace h := h.1 hc
      exact g_sub _ (sub_c (Or.inl rfl) (sub_c (Or.inl rfl) (sub_c (Or.inl rfl) (sub_c (Or.inr rfl) sub_n)))) h
    · replace h := h.2 hc
      refine g_aload_n (i := 0) dX11_step_19 rfl rfl ?_
      refine gc_RX11_209 rfl (Nat.le_of_ble_eq_true rfl) dX11_step_20 sh_119 (Nat.le_of_ble_eq_true rfl) ?_
      refine Cl.mono h (fun r3 M3 h => ?_)
      refine g_aload_n (i := 0) dX11_step_23 rfl rfl ?_
      refine g_iload_n (i := 1) dX11_step_24 rfl rfl ?_
      refine gc_RX11_70 rfl (Nat.le_of_ble_eq_true rfl) dX11_step_25 sh_119 (Nat.le_of_ble_eq_true rfl) ?_
      refine Cl.mono h (fun r4 M4 h => ?_)
      refine g_istore_n (i := 3) (L' := [.ref 119, .int l1, .int l2, .int r4]) dX11_step_28 rfl (Nat.le_of_ble_eq_true rfl) rfl rfl ?_
      refine g_aload_n (i := 0) dX11_step_29 rfl rfl ?_
      refine gf_RX11_16 rfl dX11_step_30 sh_119 ?_
      refine g_iconst (v := (2 : Int32)) dX11_step_33 (by decide) ?_
      refine g_iload_n (i := 1) dX11_step_34 rfl rfl ?_
      refine g_iadd dX11_step_35 ?_
      refine g_iconst (v := (1 : Int32)) dX11_step_36 (by decide) ?_
      refine g_iload_n (i := 2) dX11_step_37 rfl rfl ?_
      refine g_ishl dX11_step_38 ?_
      have hv1 := h.1; replace h := h.2
      refine g_iastP dX11_step_39 sh_122 hv1 ?_
      refine g_nmM (fun M5 hM5 => ?_); replace h := h M5 hM5
      refine g_iload_n (i := 3) dX11_step_40 rfl rfl ?_
      exact g_iret dX11_step_41 rfl h
theorem bX11_step_16 {κ : gK} {M : MM} {Q : Int32 → MM → Prop} 
    (h : Q (-1000000001 : Int32) M) :
    G κ mX11_step 16 [.null, .null, .null, .null] [] M Q := by
  refine g_ldc dX11_step_16 wt_984 ?_
  exact g_iret dX11_step_18 rfl h
theorem eX11_step {κ : gK} {M : MM} {Q : Int32 → MM → Prop} (l1 : Int32) (l2 : Int32)
    (h : G κ mX11_step 0 [.ref 119, .int l1, .int l2, .null] [] M Q) : Cl κ mX11_step [.ref 119, .int l1, .int l2] M Q := g_entry 1 pl_X11_step (Nat.le_of_ble_eq_true rfl) (L := [.ref 119, .int l1, .int l2, .null]) rfl (g_sub _ (sub_c (Or.inr rfl) (sub_c (Or.inr rfl) (sub_c (Or.inr rfl) (sub_c (Or.inr rfl) sub_n)))) h)
theorem dX11_leave_0 : decode cX11_leave 0 = .ok (.aload_n 0, 1) := by decide +kernel
theorem dX11_leave_1 : decode cX11_leave 1 = .ok (.iload_n 1, 1) := by decide +kernel
theorem dX11_leave_2 : decode cX11_leave 2 = .ok (.invokevirtual 195, 3) := by decide +kernel
theorem dX11_leave_5 : decode cX11_leave 5 = .ok (.ifCond .eq 11, 3) := by decide +kernel
theorem dX11_leave_8 : decode cX11_leave 8 = .ok (.aload_n 0, 1) := by decide +kernel
theorem dX11_leave_9 : decode cX11_leave 9 = .ok (.iload_n 2, 1) := by decide +kernel
theorem dX11_leave_10 : decode cX11_leave 10 = .ok (.invokevirtual 203, 3) := by decide +kernel
theorem dX11_leave_13 : decode cX11_leave 13 = .ok (.ifCond .ne 6, 3) := by decide +kernel
theorem dX11_leave_16 : decode cX11_leave 16 = .ok (.ldc 199, 2) := by decide +kernel
theorem dX11_leave_18 : decode cX11_leave 18 = .ok (.ireturn, 1) := by decide +kernel
theorem dX11_leave_19 : decode cX11_leave 19 = .ok (.aload_n 0, 1) := by decide +kernel
theorem dX11_leave_20 : decode cX11_leave 20 = .ok (.iload_n 1, 1) := by decide +kernel
theorem dX11_leave_21 : decode cX11_leave 21 = .ok (.iload_n 2, 1) := by decide +kernel
theorem dX11_leave_22 : decode cX11_leave 22 = .ok (.invokevirtual 96, 3) := by decide +kernel
theorem dX11_leave_25 : decode cX11_leave 25 = .ok (.ifCond .eq 14, 3) := by decide +kernel
theorem dX11_leave_28 : decode cX11_leave 28 = .ok (.aload_n 0, 1) := by decide +kernel
theorem dX11_leave_29 : decode cX11_leave 29 = .ok (.iload_n 1, 1) := by decide +kernel
theorem dX11_leave_30 : decode cX11_leave 30 = .ok (.invokevirtual 70, 3) := by decide +kernel
theorem dX11_leave_33 : decode cX11_leave 33 = .ok (.iconst 1, 1) := by decide +kernel
theorem dX11_leave_34 : decode cX11_leave 34 = .ok (.iload_n 2, 1) := by decide +kernel
theorem dX11_leave_35 : decode cX11_leave 35 = .ok (.ishl, 1) := by decide +kernel
theorem dX11_leave_36 : decode cX11_leave 36 = .ok (.if_icmp .ne 6, 3) := by decide +kernel
theorem dX11_leave_39 : decode cX11_leave 39 = .ok (.ldc 208, 2) := by decide +kernel
theorem dX11_leave_41 : decode cX11_leave 41 = .ok (.ireturn, 1) := by decide +kernel
theorem dX11_leave_42 : decode cX11_leave 42 = .ok (.aload_n 0, 1) := by decide +kernel
theorem dX11_leave_43 : decode cX11_leave 43 = .ok (.invokevirtual 209, 3) := by decide +kernel
theorem dX11_leave_46 : decode cX11_leave 46 = .ok (.aload_n 0, 1) := by decide +kernel
theorem dX11_leave_47 : decode cX11_leave 47 = .ok (.getfield 16, 3) := by decide +kernel
theorem dX11_leave_50 : decode cX11_leave 50 = .ok (.iconst 2, 1) := by decide +kernel
theorem dX11_leave_51 : decode cX11_leave 51 = .ok (.iload_n 1, 1) := by decide +kernel
theorem dX11_leave_52 : decode cX11_leave 52 = .ok (.iadd, 1) := by decide +kernel
theorem dX11_leave_53 : decode cX11_leave 53 = .ok (.dup2, 1) := by decide +kernel
theorem dX11_leave_54 : decode cX11_leave 54 = .ok (.iaload, 1) := by decide +kernel
theorem dX11_leave_55 : decode cX11_leave 55 = .ok (.iconst 1, 1) := by decide +kernel
theorem dX11_leave_56 : decode cX11_leave 56 = .ok (.iload_n 2, 1) := by decide +kernel
theorem dX11_leave_57 : decode cX11_leave 57 = .ok (.ishl, 1) := by decide +kernel
theorem dX11_leave_58 : decode cX11_leave 58 = .ok (.ixor, 1) := by decide +kernel
theorem dX11_leave_59 : decode cX11_leave 59 = .ok (.iastore, 1) := by decide +kernel
theorem dX11_leave_60 : decode cX11_leave 60 = .ok (.aload_n 0, 1) := by decide +kernel
theorem dX11_leave_61 : decode cX11_leave 61 = .ok (.iload_n 1, 1) := by decide +kernel
theorem dX11_leave_62 : decode cX11_leave 62 = .ok (.invokevirtual 70, 3) := by decide +kernel
theorem dX11_leave_65 : decode cX11_leave 65 = .ok (.ireturn, 1) := by decide +kernel
theorem bX11_leave_0 {κ : gK} {M : MM} {Q : Int32 → MM → Prop} (l1 : Int32) (l2 : Int32)
    (h : Cl κ mX11_isPerson [.ref 119, .int l1] M (fun r1 M1 => ((r1 = 0 → G κ mX11_leave 16 [.null, .null, .null] [] M1 Q) ∧ (¬ r1 = 0 → Cl κ mX11_isLayer [.ref 119, .int l2] M1 (fun r2 M2 => ((r2 = 0 → G κ mX11_leave 16 [.null, .null, .null] [] M2 Q) ∧ (¬ r2 = 0 → Cl κ mX11_isOn [.ref 119, .int l1, .int l2] M2 (fun r3 M3 => ((r3 = 0 → G κ mX11_leave 39 [.null, .null, .null] [] M3 Q) ∧ (¬ r3 = 0 → Cl κ mX11_layersOf [.ref 119, .int l1] M3 (fun r4 M4 => ((r4 = (jshl (1 : Int32) l2) → G κ mX11_leave 39 [.null, .null, .null] [] M4 Q) ∧ (¬ r4 = (jshl (1 : Int32) l2) → Cl κ mX11_notes [.ref 119] M4 (fun _ M5 => (vp_in ((2 : Int32) + l1) 26) ∧ (∀ M6 : MM, M6 = (pt M5 122 (((2 : Int32) + l1)).toNatClampNeg ((M5 122 (((2 : Int32) + l1)).toNatClampNeg) ^^^ (jshl (1 : Int32) l2))) → (Cl κ mX11_layersOf [.ref 119, .int l1] M6 (fun r7 M7 => Q r7 M7))))))))))))))))) :
    G κ mX11_leave 0 [.ref 119, .int l1, .int l2] [] M Q := by
  refine g_aload_n (i := 0) dX11_leave_0 rfl rfl ?_
  refine g_iload_n (i := 1) dX11_leave_1 rfl rfl ?_
  refine gc_RX11_195 rfl (Nat.le_of_ble_eq_true rfl) dX11_leave_2 sh_119 (Nat.le_of_ble_eq_true rfl) ?_
  refine Cl.mono h (fun r1 M1 h => ?_)
  refine g_if_eq (tgt := 16) dX11_leave_5 rfl ⟨fun hc => ?_, fun hc => ?_⟩
  · replace h := h.1 hc
    exact g_sub _ (sub_c (Or.inl rfl) (sub_c (Or.inl rfl) (sub_c (Or.inl rfl) sub_n))) h
  · replace h := h.2 hc
    refine g_aload_n (i := 0) dX11_leave_8 rfl rfl ?_
    refine g_iload_n (i := 2) dX11_leave_9 rfl rfl ?_
    refine gc_RX11_203 rfl (Nat.le_of_ble_eq_true rfl) dX11_leave_10 sh_119 (Nat.le_of_ble_eq_true rfl) ?_
    refine Cl.mono h (fun r2 M2 h => ?_)
    refine g_if_ne (tgt := 19) dX11_leave_13 rfl ⟨fun hc => ?_, fun hc => ?_⟩
    · replace h := h.1 hc
      exact g_sub _ (sub_c (Or.inl rfl) (sub_c (Or.inl rfl) (sub_c (Or.inl rfl) sub_n))) h
    · replace h := h.2 hc
      refine g_aload_n (i := 0) dX11_leave_19 rfl rfl ?_
      refine g_iload_n (i := 1) dX11_leave_20 rfl rfl ?_
      refine g_iload_n (i := 2) dX11_leave_21 rfl rfl ?_
      refine gc_RX11_96 rfl (Nat.le_of_ble_eq_true rfl) dX11_leave_22 sh_119 (Nat.le_of_ble_eq_true rfl) ?_
      refine Cl.mono h (fun r3 M3 h => ?_)
      refine g_if_eq (tgt := 39) dX11_leave_25 rfl ⟨fun hc => ?_, fun hc => ?_⟩
      · replace h := h.1 hc
        exact g_sub _ (sub_c (Or.inl rfl) (sub_c (Or.inl rfl) (sub_c (Or.inl rfl) sub_n))) h
      · replace h := h.2 hc
        refine g_aload_n (i := 0) dX11_leave_28 rfl rfl ?_
        refine g_iload_n (i := 1) dX11_leave_29 rfl rfl ?_
        refine gc_RX11_70 rfl (Nat.le_of_ble_eq_true rfl) dX11_leave_30 sh_119 (Nat.le_of_ble_eq_true rfl) ?_
        refine Cl.mono h (fun r4 M4 h => ?_)
        refine g_iconst (v := (1 : Int32)) dX11_leave_33 (by decide) ?_
        refine g_iload_n (i := 2) dX11_leave_34 rfl rfl ?_
        refine g_ishl dX11_leave_35 ?_
        refine g_icmp_ne (tgt := 42) dX11_leave_36 rfl ⟨fun hc => ?_, fun hc => ?_⟩
        · replace h := h.1 hc
          exact g_sub _ (sub_c (Or.inl rfl) (sub_c (Or.inl rfl) (sub_c (Or.inl rfl) sub_n))) h
        · replace h := h.2 hc
          refine g_aload_n (i := 0) dX11_leave_42 rfl rfl ?_
          refine gc_RX11_209 rfl (Nat.le_of_ble_eq_true rfl) dX11_leave_43 sh_119 (Nat.le_of_ble_eq_true rfl) ?_
          refine Cl.mono h (fun r5 M5 h => ?_)
          refine g_aload_n (i := 0) dX11_leave_46 rfl rfl ?_
          refine gf_RX11_16 rfl dX11_leave_47 sh_119 ?_
          refine g_iconst (v := (2 : Int32)) dX11_leave_50 (by decide) ?_
          refine g_iload_n (i := 1) dX11_leave_51 rfl rfl ?_
          refine g_iadd dX11_leave_52 ?_
          refine g_dup2 dX11_leave_53 rfl rfl ?_
          have hv1 := h.1; replace h := h.2
          refine g_iald dX11_leave_54 sh_122 hv1 ?_
          refine g_iconst (v := (1 : Int32)) dX11_leave_55 (by decide) ?_
          refine g_iload_n (i := 2) dX11_leave_56 rfl rfl ?_
          refine g_ishl dX11_leave_57 ?_
          refine g_ixor dX11_leave_58 ?_
          refine g_iastP dX11_leave_59 sh_122 hv1 ?_
          refine g_nmM (fun M6 hM6 => ?_); replace h := h M6 hM6
          refine g_aload_n (i := 0) dX11_leave_60 rfl rfl ?_
          refine g_iload_n (i := 1) dX11_leave_61 rfl rfl ?_
          refine gc_RX11_70 rfl (Nat.le_of_ble_eq_true rfl) dX11_leave_62 sh_119 (Nat.le_of_ble_eq_true rfl) ?_
          refine Cl.mono h (fun r7 M7 h => ?_)
          exact g_iret dX11_leave_65 rfl h
theorem bX11_leave_16 {κ : gK} {M : MM} {Q : Int32 → MM → Prop} 
    (h : Q (-1000000001 : Int32) M) :
    G κ mX11_leave 16 [.null, .null, .null] [] M Q := by
  refine g_ldc dX11_leave_16 wt_984 ?_
  exact g_iret dX11_leave_18 rfl h
theorem bX11_leave_39 {κ : gK} {M : MM} {Q : Int32 → MM → Prop} 
    (h : Q (-1000000003 : Int32) M) :
    G κ mX11_leave 39 [.null, .null, .null] [] M Q := by
  refine g_ldc dX11_leave_39 wt_1002 ?_
  exact g_iret dX11_leave_41 rfl h
theorem eX11_leave {κ : gK} {M : MM} {Q : Int32 → MM → Prop} (l1 : Int32) (l2 : Int32)
    (h : G κ mX11_leave 0 [.ref 119, .int l1, .int l2] [] M Q) : Cl κ mX11_leave [.ref 119, .int l1, .int l2] M Q := g_entry 0 pl_X11_leave (Nat.le_of_ble_eq_true rfl) (L := [.ref 119, .int l1, .int l2]) rfl (g_sub _ (sub_c (Or.inr rfl) (sub_c (Or.inr rfl) (sub_c (Or.inr rfl) sub_n))) h)
theorem dX11_ear_0 : decode cX11_ear 0 = .ok (.aload_n 0, 1) := by decide +kernel
theorem dX11_ear_1 : decode cX11_ear 1 = .ok (.iload_n 1, 1) := by decide +kernel
theorem dX11_ear_2 : decode cX11_ear 2 = .ok (.invokevirtual 195, 3) := by decide +kernel
theorem dX11_ear_5 : decode cX11_ear 5 = .ok (.ifCond .ne 6, 3) := by decide +kernel
theorem dX11_ear_8 : decode cX11_ear 8 = .ok (.ldc 199, 2) := by decide +kernel
theorem dX11_ear_10 : decode cX11_ear 10 = .ok (.ireturn, 1) := by decide +kernel
theorem dX11_ear_11 : decode cX11_ear 11 = .ok (.iload_n 2, 1) := by decide +kernel
theorem dX11_ear_12 : decode cX11_ear 12 = .ok (.i2l, 1) := by decide +kernel
theorem dX11_ear_13 : decode cX11_ear 13 = .ok (.lconst 0, 1) := by decide +kernel
theorem dX11_ear_14 : decode cX11_ear 14 = .ok (.ldc2_w 215, 3) := by decide +kernel
theorem dX11_ear_17 : decode cX11_ear 17 = .ok (.invokestatic 63, 3) := by decide +kernel
theorem dX11_ear_20 : decode cX11_ear 20 = .ok (.ifCond .ne 6, 3) := by decide +kernel
theorem dX11_ear_23 : decode cX11_ear 23 = .ok (.ldc 112, 2) := by decide +kernel
theorem dX11_ear_25 : decode cX11_ear 25 = .ok (.ireturn, 1) := by decide +kernel
theorem dX11_ear_26 : decode cX11_ear 26 = .ok (.aload_n 0, 1) := by decide +kernel
theorem dX11_ear_27 : decode cX11_ear 27 = .ok (.invokevirtual 209, 3) := by decide +kernel
theorem dX11_ear_30 : decode cX11_ear 30 = .ok (.aload_n 0, 1) := by decide +kernel
theorem dX11_ear_31 : decode cX11_ear 31 = .ok (.getfield 16, 3) := by decide +kernel
theorem dX11_ear_34 : decode cX11_ear 34 = .ok (.bipush 10, 2) := by decide +kernel
theorem dX11_ear_36 : decode cX11_ear 36 = .ok (.iload_n 1, 1) := by decide +kernel
theorem dX11_ear_37 : decode cX11_ear 37 = .ok (.iadd, 1) := by decide +kernel
theorem dX11_ear_38 : decode cX11_ear 38 = .ok (.iaload, 1) := by decide +kernel
theorem dX11_ear_39 : decode cX11_ear 39 = .ok (.istore_n 3, 1) := by decide +kernel
theorem dX11_ear_40 : decode cX11_ear 40 = .ok (.aload_n 0, 1) := by decide +kernel
theorem dX11_ear_41 : decode cX11_ear 41 = .ok (.getfield 16, 3) := by decide +kernel
theorem dX11_ear_44 : decode cX11_ear 44 = .ok (.bipush 10, 2) := by decide +kernel
theorem dX11_ear_46 : decode cX11_ear 46 = .ok (.iload_n 1, 1) := by decide +kernel
theorem dX11_ear_47 : decode cX11_ear 47 = .ok (.iadd, 1) := by decide +kernel
theorem dX11_ear_48 : decode cX11_ear 48 = .ok (.iload_n 2, 1) := by decide +kernel
theorem dX11_ear_49 : decode cX11_ear 49 = .ok (.iastore, 1) := by decide +kernel
theorem dX11_ear_50 : decode cX11_ear 50 = .ok (.iload_n 3, 1) := by decide +kernel
theorem dX11_ear_51 : decode cX11_ear 51 = .ok (.ireturn, 1) := by decide +kernel
theorem bX11_ear_0 {κ : gK} {M : MM} {Q : Int32 → MM → Prop} (l1 : Int32) (l2 : Int32)
    (h : Cl κ mX11_isPerson [.ref 119, .int l1] M (fun r1 M1 => ((r1 = 0 → Q (-1000000001 : Int32) M1) ∧ (¬ r1 = 0 → Cl κ mX11_in [.long (l2).toInt64, .long (0 : Int64), .long (9 : Int64)] M1 (fun r2 M2 => ((r2 = 0 → Q (-1000000002 : Int32) M2) ∧ (¬ r2 = 0 → Cl κ mX11_notes [.ref 119] M2 (fun _ M3 => (vp_in ((10 : Int32) + l1) 26) ∧ (∀ v4 : Int32, v4 = (M3 122 (((10 : Int32) + l1)).toNatClampNeg) → (∀ M5 : MM, M5 = (pt M3 122 (((10 : Int32) + l1)).toNatClampNeg l2) → (Q v4 M5))))))))))) :
    G κ mX11_ear 0 [.ref 119, .int l1, .int l2, .null] [] M Q := by
  refine g_aload_n (i := 0) dX11_ear_0 rfl rfl ?_
  refine g_iload_n (i := 1) dX11_ear_1 rfl rfl ?_
  refine gc_RX11_195 rfl (Nat.le_of_ble_eq_true rfl) dX11_ear_2 sh_119 (Nat.le_of_ble_eq_true rfl) ?_
  refine Cl.mono h (fun r1 M1 h => ?_)
  refine g_if_ne (tgt := 11) dX11_ear_5 rfl ⟨fun hc => ?_, fun hc => ?_⟩
  · replace h := h.1 hc
    refine g_ldc dX11_ear_8 wt_984 ?_
    exact g_iret dX11_ear_10 rfl h
  · replace h := h.2 hc
    refine g_iload_n (i := 2) dX11_ear_11 rfl rfl ?_
    refine g_i2l dX11_ear_12 ?_
    refine g_lconst (v := (0 : Int64)) dX11_ear_13 (by decide) ?_
    refine g_ldc2 dX11_ear_14 wt_1028 ?_
    refine gc_RX11_63 rfl (Nat.le_of_ble_eq_true rfl) dX11_ear_17 (Nat.le_of_ble_eq_true rfl) ?_
    refine Cl.mono h (fun r2 M2 h => ?_)
    refine g_if_ne (tgt := 26) dX11_ear_20 rfl ⟨fun hc => ?_, fun hc => ?_⟩
    · replace h := h.1 hc
      refine g_ldc dX11_ear_23 wt_873 ?_
      exact g_iret dX11_ear_25 rfl h
    · replace h := h.2 hc
      refine g_aload_n (i := 0) dX11_ear_26 rfl rfl ?_
      refine gc_RX11_209 rfl (Nat.le_of_ble_eq_true rfl) dX11_ear_27 sh_119 (Nat.le_of_ble_eq_true rfl) ?_
      refine Cl.mono h (fun r3 M3 h => ?_)
      refine g_aload_n (i := 0) dX11_ear_30 rfl rfl ?_
      refine gf_RX11_16 rfl dX11_ear_31 sh_119 ?_
      refine g_bipush (v := (10 : Int32)) dX11_ear_34 (by decide) ?_
      refine g_iload_n (i := 1) dX11_ear_36 rfl rfl ?_
      refine g_iadd dX11_ear_37 ?_
      have hv1 := h.1; replace h := h.2
      refine g_iald dX11_ear_38 sh_122 hv1 ?_
      refine lv_nm (fun v4 hn4 => ?_) (x := (M3 122 (((10 : Int32) + l1)).toNatClampNeg))
      replace h := h v4 hn4
      refine g_istore_n (i := 3) (L' := [.ref 119, .int l1, .int l2, .int v4]) dX11_ear_39 rfl (Nat.le_of_ble_eq_true rfl) rfl rfl ?_
      refine g_aload_n (i := 0) dX11_ear_40 rfl rfl ?_
      refine gf_RX11_16 rfl dX11_ear_41 sh_119 ?_
      refine g_bipush (v := (10 : Int32)) dX11_ear_44 (by decide) ?_
      refine g_iload_n (i := 1) dX11_ear_46 rfl rfl ?_
      refine g_iadd dX11_ear_47 ?_
      refine g_iload_n (i := 2) dX11_ear_48 rfl rfl ?_
      refine g_iastP dX11_ear_49 sh_122 hv1 ?_
      refine g_nmM (fun M5 hM5 => ?_); replace h := h M5 hM5
      refine g_iload_n (i := 3) dX11_ear_50 rfl rfl ?_
      exact g_iret dX11_ear_51 rfl h
theorem eX11_ear {κ : gK} {M : MM} {Q : Int32 → MM → Prop} (l1 : Int32) (l2 : Int32)
    (h : G κ mX11_ear 0 [.ref 119, .int l1, .int l2, .null] [] M Q) : Cl κ mX11_ear [.ref 119, .int l1, .int l2] M Q := g_entry 1 pl_X11_ear (Nat.le_of_ble_eq_true rfl) (L := [.ref 119, .int l1, .int l2, .null]) rfl (g_sub _ (sub_c (Or.inr rfl) (sub_c (Or.inr rfl) (sub_c (Or.inr rfl) (sub_c (Or.inr rfl) sub_n)))) h)
theorem dX11_deed_0 : decode cX11_deed 0 = .ok (.aload_n 0, 1) := by decide +kernel
theorem dX11_deed_1 : decode cX11_deed 1 = .ok (.iload_n 1, 1) := by decide +kernel
theorem dX11_deed_2 : decode cX11_deed 2 = .ok (.invokevirtual 195, 3) := by decide +kernel
theorem dX11_deed_5 : decode cX11_deed 5 = .ok (.ifCond .ne 6, 3) := by decide +kernel
theorem dX11_deed_8 : decode cX11_deed 8 = .ok (.ldc 199, 2) := by decide +kernel
theorem dX11_deed_10 : decode cX11_deed 10 = .ok (.ireturn, 1) := by decide +kernel
theorem dX11_deed_11 : decode cX11_deed 11 = .ok (.aload_n 0, 1) := by decide +kernel
theorem dX11_deed_12 : decode cX11_deed 12 = .ok (.invokevirtual 209, 3) := by decide +kernel
theorem dX11_deed_15 : decode cX11_deed 15 = .ok (.aload_n 0, 1) := by decide +kernel
theorem dX11_deed_16 : decode cX11_deed 16 = .ok (.getfield 16, 3) := by decide +kernel
theorem dX11_deed_19 : decode cX11_deed 19 = .ok (.iconst 1, 1) := by decide +kernel
theorem dX11_deed_20 : decode cX11_deed 20 = .ok (.dup2, 1) := by decide +kernel
theorem dX11_deed_21 : decode cX11_deed 21 = .ok (.iaload, 1) := by decide +kernel
theorem dX11_deed_22 : decode cX11_deed 22 = .ok (.aload_n 0, 1) := by decide +kernel
theorem dX11_deed_23 : decode cX11_deed 23 = .ok (.iload_n 1, 1) := by decide +kernel
theorem dX11_deed_24 : decode cX11_deed 24 = .ok (.invokevirtual 70, 3) := by decide +kernel
theorem dX11_deed_27 : decode cX11_deed 27 = .ok (.ior, 1) := by decide +kernel
theorem dX11_deed_28 : decode cX11_deed 28 = .ok (.iastore, 1) := by decide +kernel
theorem dX11_deed_29 : decode cX11_deed 29 = .ok (.aload_n 0, 1) := by decide +kernel
theorem dX11_deed_30 : decode cX11_deed 30 = .ok (.getfield 16, 3) := by decide +kernel
theorem dX11_deed_33 : decode cX11_deed 33 = .ok (.iconst 1, 1) := by decide +kernel
theorem dX11_deed_34 : decode cX11_deed 34 = .ok (.iaload, 1) := by decide +kernel
theorem dX11_deed_35 : decode cX11_deed 35 = .ok (.ireturn, 1) := by decide +kernel
theorem bX11_deed_0 {κ : gK} {M : MM} {Q : Int32 → MM → Prop} (l1 : Int32)
    (h : Cl κ mX11_isPerson [.ref 119, .int l1] M (fun r1 M1 => ((r1 = 0 → Q (-1000000001 : Int32) M1) ∧ (¬ r1 = 0 → Cl κ mX11_notes [.ref 119] M1 (fun _ M2 => Cl κ mX11_layersOf [.ref 119, .int l1] M2 (fun r3 M3 => ∀ M4 : MM, M4 = (pt M3 122 1 ((M2 122 1) ||| r3)) → (Q (M4 122 1) M4))))))) :
    G κ mX11_deed 0 [.ref 119, .int l1] [] M Q := by
  refine g_aload_n (i := 0) dX11_deed_0 rfl rfl ?_
  refine g_iload_n (i := 1) dX11_deed_1 rfl rfl ?_
  refine gc_RX11_195 rfl (Nat.le_of_ble_eq_true rfl) dX11_deed_2 sh_119 (Nat.le_of_ble_eq_true rfl) ?_
  refine Cl.mono h (fun r1 M1 h => ?_)
  refine g_if_ne (tgt := 11) dX11_deed_5 rfl ⟨fun hc => ?_, fun hc => ?_⟩
  · replace h := h.1 hc
    refine g_ldc dX11_deed_8 wt_984 ?_
    exact g_iret dX11_deed_10 rfl h
  · replace h := h.2 hc
    refine g_aload_n (i := 0) dX11_deed_11 rfl rfl ?_
    refine gc_RX11_209 rfl (Nat.le_of_ble_eq_true rfl) dX11_deed_12 sh_119 (Nat.le_of_ble_eq_true rfl) ?_
    refine Cl.mono h (fun r2 M2 h => ?_)
    refine g_aload_n (i := 0) dX11_deed_15 rfl rfl ?_
    refine gf_RX11_16 rfl dX11_deed_16 sh_119 ?_
    refine g_iconst (v := (1 : Int32)) dX11_deed_19 (by decide) ?_
    refine g_dup2 dX11_deed_20 rfl rfl ?_
    refine g_iald dX11_deed_21 sh_122 (by unfold vp_in; decide) ?_
    refine g_aload_n (i := 0) dX11_deed_22 rfl rfl ?_
    refine g_iload_n (i := 1) dX11_deed_23 rfl rfl ?_
    refine gc_RX11_70 rfl (Nat.le_of_ble_eq_true rfl) dX11_deed_24 sh_119 (Nat.le_of_ble_eq_true rfl) ?_
    refine Cl.mono h (fun r3 M3 h => ?_)
    refine g_ior dX11_deed_27 ?_
    refine g_iastP dX11_deed_28 sh_122 (by unfold vp_in; decide) ?_
    refine g_nmM (fun M4 hM4 => ?_); replace h := h M4 hM4
    refine g_aload_n (i := 0) dX11_deed_29 rfl rfl ?_
    refine gf_RX11_16 rfl dX11_deed_30 sh_119 ?_
    refine g_iconst (v := (1 : Int32)) dX11_deed_33 (by decide) ?_
    refine g_iald dX11_deed_34 sh_122 (by unfold vp_in; decide) ?_
    exact g_iret dX11_deed_35 rfl h
theorem eX11_deed {κ : gK} {M : MM} {Q : Int32 → MM → Prop} (l1 : Int32)
    (h : G κ mX11_deed 0 [.ref 119, .int l1] [] M Q) : Cl κ mX11_deed [.ref 119, .int l1] M Q := g_entry 0 pl_X11_deed (Nat.le_of_ble_eq_true rfl) (L := [.ref 119, .int l1]) rfl (g_sub _ (sub_c (Or.inr rfl) (sub_c (Or.inr rfl) sub_n)) h)
theorem dX11_wipe_0 : decode cX11_wipe 0 = .ok (.aload_n 0, 1) := by decide +kernel
theorem dX11_wipe_1 : decode cX11_wipe 1 = .ok (.invokevirtual 179, 3) := by decide +kernel
theorem dX11_wipe_4 : decode cX11_wipe 4 = .ok (.ifCond .ne 6, 3) := by decide +kernel
theorem dX11_wipe_7 : decode cX11_wipe 7 = .ok (.ldc 208, 2) := by decide +kernel
theorem dX11_wipe_9 : decode cX11_wipe 9 = .ok (.ireturn, 1) := by decide +kernel
theorem dX11_wipe_10 : decode cX11_wipe 10 = .ok (.aload_n 0, 1) := by decide +kernel
theorem dX11_wipe_11 : decode cX11_wipe 11 = .ok (.invokevirtual 209, 3) := by decide +kernel
theorem dX11_wipe_14 : decode cX11_wipe 14 = .ok (.aload_n 0, 1) := by decide +kernel
theorem dX11_wipe_15 : decode cX11_wipe 15 = .ok (.getfield 16, 3) := by decide +kernel
theorem dX11_wipe_18 : decode cX11_wipe 18 = .ok (.iconst 1, 1) := by decide +kernel
theorem dX11_wipe_19 : decode cX11_wipe 19 = .ok (.iaload, 1) := by decide +kernel
theorem dX11_wipe_20 : decode cX11_wipe 20 = .ok (.istore_n 1, 1) := by decide +kernel
theorem dX11_wipe_21 : decode cX11_wipe 21 = .ok (.aload_n 0, 1) := by decide +kernel
theorem dX11_wipe_22 : decode cX11_wipe 22 = .ok (.getfield 16, 3) := by decide +kernel
theorem dX11_wipe_25 : decode cX11_wipe 25 = .ok (.iconst 1, 1) := by decide +kernel
theorem dX11_wipe_26 : decode cX11_wipe 26 = .ok (.iconst 0, 1) := by decide +kernel
theorem dX11_wipe_27 : decode cX11_wipe 27 = .ok (.iastore, 1) := by decide +kernel
theorem dX11_wipe_28 : decode cX11_wipe 28 = .ok (.iload_n 1, 1) := by decide +kernel
theorem dX11_wipe_29 : decode cX11_wipe 29 = .ok (.ireturn, 1) := by decide +kernel
theorem bX11_wipe_0 {κ : gK} {M : MM} {Q : Int32 → MM → Prop} 
    (h : Cl κ mX11_isTown [.ref 119] M (fun r1 M1 => ((r1 = 0 → Q (-1000000003 : Int32) M1) ∧ (¬ r1 = 0 → Cl κ mX11_notes [.ref 119] M1 (fun _ M2 => ∀ M3 : MM, M3 = (pt M2 122 1 (0 : Int32)) → (Q (M2 122 1) M3)))))) :
    G κ mX11_wipe 0 [.ref 119, .null] [] M Q := by
  refine g_aload_n (i := 0) dX11_wipe_0 rfl rfl ?_
  refine gc_RX11_179 rfl (Nat.le_of_ble_eq_true rfl) dX11_wipe_1 sh_119 (Nat.le_of_ble_eq_true rfl) ?_
  refine Cl.mono h (fun r1 M1 h => ?_)
  refine g_if_ne (tgt := 10) dX11_wipe_4 rfl ⟨fun hc => ?_, fun hc => ?_⟩
  · replace h := h.1 hc
    refine g_ldc dX11_wipe_7 wt_1002 ?_
    exact g_iret dX11_wipe_9 rfl h
  · replace h := h.2 hc
    refine g_aload_n (i := 0) dX11_wipe_10 rfl rfl ?_
    refine gc_RX11_209 rfl (Nat.le_of_ble_eq_true rfl) dX11_wipe_11 sh_119 (Nat.le_of_ble_eq_true rfl) ?_
    refine Cl.mono h (fun r2 M2 h => ?_)
    refine g_aload_n (i := 0) dX11_wipe_14 rfl rfl ?_
    refine gf_RX11_16 rfl dX11_wipe_15 sh_119 ?_
    refine g_iconst (v := (1 : Int32)) dX11_wipe_18 (by decide) ?_
    refine g_iald dX11_wipe_19 sh_122 (by unfold vp_in; decide) ?_
    refine g_istore_n (i := 1) (L' := [.ref 119, .int (M2 122 1)]) dX11_wipe_20 rfl (Nat.le_of_ble_eq_true rfl) rfl rfl ?_
    refine g_aload_n (i := 0) dX11_wipe_21 rfl rfl ?_
    refine gf_RX11_16 rfl dX11_wipe_22 sh_119 ?_
    refine g_iconst (v := (1 : Int32)) dX11_wipe_25 (by decide) ?_
    refine g_iconst (v := (0 : Int32)) dX11_wipe_26 (by decide) ?_
    refine g_iastP dX11_wipe_27 sh_122 (by unfold vp_in; decide) ?_
    refine g_nmM (fun M3 hM3 => ?_); replace h := h M3 hM3
    refine g_iload_n (i := 1) dX11_wipe_28 rfl rfl ?_
    exact g_iret dX11_wipe_29 rfl h
theorem eX11_wipe {κ : gK} {M : MM} {Q : Int32 → MM → Prop} 
    (h : G κ mX11_wipe 0 [.ref 119, .null] [] M Q) : Cl κ mX11_wipe [.ref 119] M Q := g_entry 1 pl_X11_wipe (Nat.le_of_ble_eq_true rfl) (L := [.ref 119, .null]) rfl (g_sub _ (sub_c (Or.inr rfl) (sub_c (Or.inr rfl) sub_n)) h)
theorem dX11_draw_0 : decode cX11_draw 0 = .ok (.aload_n 0, 1) := by decide +kernel
theorem dX11_draw_1 : decode cX11_draw 1 = .ok (.aload_n 0, 1) := by decide +kernel
theorem dX11_draw_2 : decode cX11_draw 2 = .ok (.getfield 217, 3) := by decide +kernel
theorem dX11_draw_5 : decode cX11_draw 5 = .ok (.i2l, 1) := by decide +kernel
theorem dX11_draw_6 : decode cX11_draw 6 = .ok (.ldc2_w 220, 3) := by decide +kernel
theorem dX11_draw_9 : decode cX11_draw 9 = .ok (.lmul, 1) := by decide +kernel
theorem dX11_draw_10 : decode cX11_draw 10 = .ok (.ldc2_w 222, 3) := by decide +kernel
theorem dX11_draw_13 : decode cX11_draw 13 = .ok (.ladd, 1) := by decide +kernel
theorem dX11_draw_14 : decode cX11_draw 14 = .ok (.ldc2_w 224, 3) := by decide +kernel
theorem dX11_draw_17 : decode cX11_draw 17 = .ok (.land, 1) := by decide +kernel
theorem dX11_draw_18 : decode cX11_draw 18 = .ok (.l2i, 1) := by decide +kernel
theorem dX11_draw_19 : decode cX11_draw 19 = .ok (.putfield 217, 3) := by decide +kernel
theorem dX11_draw_22 : decode cX11_draw 22 = .ok (.aload_n 0, 1) := by decide +kernel
theorem dX11_draw_23 : decode cX11_draw 23 = .ok (.getfield 217, 3) := by decide +kernel
theorem dX11_draw_26 : decode cX11_draw 26 = .ok (.ldc 226, 2) := by decide +kernel
theorem dX11_draw_28 : decode cX11_draw 28 = .ok (.idiv, 1) := by decide +kernel
theorem dX11_draw_29 : decode cX11_draw 29 = .ok (.iload_n 1, 1) := by decide +kernel
theorem dX11_draw_30 : decode cX11_draw 30 = .ok (.irem, 1) := by decide +kernel
theorem dX11_draw_31 : decode cX11_draw 31 = .ok (.ireturn, 1) := by decide +kernel
theorem bX11_draw_0 {κ : gK} {M : MM} {Q : Int32 → MM → Prop} (l1 : Int32)
    (h : ∀ M1 : MM, M1 = (pt M 119 20 ((((((M 119 20)).toInt64 * (1103515245 : Int64)) + (12345 : Int64)) &&& (2147483647 : Int64))).toInt32) → ((¬ l1 = 0) ∧ (Q (irm ((M1 119 20) / (65536 : Int32)) l1) M1))) :
    G κ mX11_draw 0 [.ref 119, .int l1] [] M Q := by
  refine g_aload_n (i := 0) dX11_draw_0 rfl rfl ?_
  refine g_aload_n (i := 0) dX11_draw_1 rfl rfl ?_
  refine gf_RX11_217 rfl dX11_draw_2 sh_119 ?_
  refine g_i2l dX11_draw_5 ?_
  refine g_ldc2 dX11_draw_6 wt_1061 ?_
  refine g_lmul dX11_draw_9 ?_
  refine g_ldc2 dX11_draw_10 wt_1062 ?_
  refine g_ladd dX11_draw_13 ?_
  refine g_ldc2 dX11_draw_14 wt_1063 ?_
  refine g_land dX11_draw_17 ?_
  refine g_l2i dX11_draw_18 ?_
  refine gp_RX11_217 rfl dX11_draw_19 sh_119 ?_
  refine g_nmM (fun M1 hM1 => ?_); replace h := h M1 hM1
  refine g_aload_n (i := 0) dX11_draw_22 rfl rfl ?_
  refine gf_RX11_217 rfl dX11_draw_23 sh_119 ?_
  refine g_ldc dX11_draw_26 wt_1064 ?_
  refine g_idiv dX11_draw_28 (by decide) ?_
  refine g_iload_n (i := 1) dX11_draw_29 rfl rfl ?_
  have hv1 := h.1; replace h := h.2
  refine g_irem dX11_draw_30 hv1 ?_
  exact g_iret dX11_draw_31 rfl h
theorem eX11_draw {κ : gK} {M : MM} {Q : Int32 → MM → Prop} (l1 : Int32)
    (h : G κ mX11_draw 0 [.ref 119, .int l1] [] M Q) : Cl κ mX11_draw [.ref 119, .int l1] M Q := g_entry 0 pl_X11_draw (Nat.le_of_ble_eq_true rfl) (L := [.ref 119, .int l1]) rfl (g_sub _ (sub_c (Or.inr rfl) (sub_c (Or.inr rfl) sub_n)) h)
theorem dX11_chances_0 : decode cX11_chances 0 = .ok (.aload_n 0, 1) := by decide +kernel
theorem dX11_chances_1 : decode cX11_chances 1 = .ok (.iconst 5, 1) := by decide +kernel
theorem dX11_chances_2 : decode cX11_chances 2 = .ok (.invokevirtual 227, 3) := by decide +kernel
theorem dX11_chances_5 : decode cX11_chances 5 = .ok (.istore_n 1, 1) := by decide +kernel
theorem dX11_chances_6 : decode cX11_chances 6 = .ok (.aload_n 0, 1) := by decide +kernel
theorem dX11_chances_7 : decode cX11_chances 7 = .ok (.aload_n 0, 1) := by decide +kernel
theorem dX11_chances_8 : decode cX11_chances 8 = .ok (.getfield 60, 3) := by decide +kernel
theorem dX11_chances_11 : decode cX11_chances 11 = .ok (.invokevirtual 227, 3) := by decide +kernel
theorem dX11_chances_14 : decode cX11_chances 14 = .ok (.istore_n 2, 1) := by decide +kernel
theorem dX11_chances_15 : decode cX11_chances 15 = .ok (.iload_n 1, 1) := by decide +kernel
theorem dX11_chances_16 : decode cX11_chances 16 = .ok (.tableswitch 103 0 3 #[32, 53, 71, 88], 32) := by decide +kernel
theorem dX11_chances_48 : decode cX11_chances 48 = .ok (.aload_n 0, 1) := by decide +kernel
theorem dX11_chances_49 : decode cX11_chances 49 = .ok (.getfield 16, 3) := by decide +kernel
theorem dX11_chances_52 : decode cX11_chances 52 = .ok (.iconst 2, 1) := by decide +kernel
theorem dX11_chances_53 : decode cX11_chances 53 = .ok (.iload_n 2, 1) := by decide +kernel
theorem dX11_chances_54 : decode cX11_chances 54 = .ok (.iadd, 1) := by decide +kernel
theorem dX11_chances_55 : decode cX11_chances 55 = .ok (.iconst 1, 1) := by decide +kernel
theorem dX11_chances_56 : decode cX11_chances 56 = .ok (.aload_n 0, 1) := by decide +kernel
theorem dX11_chances_57 : decode cX11_chances 57 = .ok (.aload_n 0, 1) := by decide +kernel
theorem dX11_chances_58 : decode cX11_chances 58 = .ok (.getfield 67, 3) := by decide +kernel
theorem dX11_chances_61 : decode cX11_chances 61 = .ok (.invokevirtual 227, 3) := by decide +kernel
theorem dX11_chances_64 : decode cX11_chances 64 = .ok (.ishl, 1) := by decide +kernel
theorem dX11_chances_65 : decode cX11_chances 65 = .ok (.iastore, 1) := by decide +kernel
theorem dX11_chances_66 : decode cX11_chances 66 = .ok (.goto 53, 3) := by decide +kernel
theorem dX11_chances_69 : decode cX11_chances 69 = .ok (.aload_n 0, 1) := by decide +kernel
theorem dX11_chances_70 : decode cX11_chances 70 = .ok (.getfield 16, 3) := by decide +kernel
theorem dX11_chances_73 : decode cX11_chances 73 = .ok (.bipush 10, 2) := by decide +kernel
theorem dX11_chances_75 : decode cX11_chances 75 = .ok (.iload_n 2, 1) := by decide +kernel
theorem dX11_chances_76 : decode cX11_chances 76 = .ok (.iadd, 1) := by decide +kernel
theorem dX11_chances_77 : decode cX11_chances 77 = .ok (.aload_n 0, 1) := by decide +kernel
theorem dX11_chances_78 : decode cX11_chances 78 = .ok (.bipush 10, 2) := by decide +kernel
theorem dX11_chances_80 : decode cX11_chances 80 = .ok (.invokevirtual 227, 3) := by decide +kernel
theorem dX11_chances_83 : decode cX11_chances 83 = .ok (.iastore, 1) := by decide +kernel
theorem dX11_chances_84 : decode cX11_chances 84 = .ok (.goto 35, 3) := by decide +kernel
theorem dX11_chances_87 : decode cX11_chances 87 = .ok (.aload_n 0, 1) := by decide +kernel
theorem dX11_chances_88 : decode cX11_chances 88 = .ok (.getfield 16, 3) := by decide +kernel
theorem dX11_chances_91 : decode cX11_chances 91 = .ok (.iconst 1, 1) := by decide +kernel
theorem dX11_chances_92 : decode cX11_chances 92 = .ok (.dup2, 1) := by decide +kernel
theorem dX11_chances_93 : decode cX11_chances 93 = .ok (.iaload, 1) := by decide +kernel
theorem dX11_chances_94 : decode cX11_chances 94 = .ok (.aload_n 0, 1) := by decide +kernel
theorem dX11_chances_95 : decode cX11_chances 95 = .ok (.iload_n 2, 1) := by decide +kernel
theorem dX11_chances_96 : decode cX11_chances 96 = .ok (.invokevirtual 70, 3) := by decide +kernel
theorem dX11_chances_99 : decode cX11_chances 99 = .ok (.ior, 1) := by decide +kernel
theorem dX11_chances_100 : decode cX11_chances 100 = .ok (.iastore, 1) := by decide +kernel
theorem dX11_chances_101 : decode cX11_chances 101 = .ok (.goto 18, 3) := by decide +kernel
theorem dX11_chances_104 : decode cX11_chances 104 = .ok (.aload_n 0, 1) := by decide +kernel
theorem dX11_chances_105 : decode cX11_chances 105 = .ok (.iconst 1, 1) := by decide +kernel
theorem dX11_chances_106 : decode cX11_chances 106 = .ok (.aload_n 0, 1) := by decide +kernel
theorem dX11_chances_107 : decode cX11_chances 107 = .ok (.bipush 9, 2) := by decide +kernel
theorem dX11_chances_109 : decode cX11_chances 109 = .ok (.invokevirtual 227, 3) := by decide +kernel
theorem dX11_chances_112 : decode cX11_chances 112 = .ok (.iadd, 1) := by decide +kernel
theorem dX11_chances_113 : decode cX11_chances 113 = .ok (.invokevirtual 92, 3) := by decide +kernel
theorem dX11_chances_116 : decode cX11_chances 116 = .ok (.goto 3, 3) := by decide +kernel
theorem dX11_chances_119 : decode cX11_chances 119 = .ok (.return_, 1) := by decide +kernel
theorem bX11_chances_0 {κ : gK} {M : MM} {Q : Int32 → MM → Prop} 
    (h : Cl κ mX11_draw [.ref 119, .int (5 : Int32)] M (fun r1 M1 => Cl κ mX11_draw [.ref 119, .int (M1 119 2)] M1 (fun r2 M2 => ((r1 = (0 : Int32) → Cl κ mX11_draw [.ref 119, .int (M2 119 0)] M2 (fun r3 M3 => (vp_in ((2 : Int32) + r2) 26) ∧ (∀ M4 : MM, M4 = (pt M3 122 (((2 : Int32) + r2)).toNatClampNeg (jshl (1 : Int32) r3)) → (G κ mX11_chances 119 [.null, .null, .null] [] M4 Q)))) ∧ (r1 = (1 : Int32) → Cl κ mX11_draw [.ref 119, .int (10 : Int32)] M2 (fun r5 M5 => (vp_in ((10 : Int32) + r2) 26) ∧ (∀ M6 : MM, M6 = (pt M5 122 (((10 : Int32) + r2)).toNatClampNeg r5) → (G κ mX11_chances 119 [.null, .null, .null] [] M6 Q)))) ∧ (r1 = (2 : Int32) → Cl κ mX11_layersOf [.ref 119, .int r2] M2 (fun r7 M7 => ∀ M8 : MM, M8 = (pt M7 122 1 ((M2 122 1) ||| r7)) → (G κ mX11_chances 119 [.null, .null, .null] [] M8 Q))) ∧ (r1 = (3 : Int32) → Cl κ mX11_draw [.ref 119, .int (9 : Int32)] M2 (fun r9 M9 => Cl κ mX11_sounds [.ref 119, .int ((1 : Int32) + r9)] M9 (fun _ M10 => G κ mX11_chances 119 [.null, .null, .null] [] M10 Q))) ∧ ((∀ k : Nat, k ≤ 3 → r1 ≠ nI k) → G κ mX11_chances 119 [.null, .null, .null] [] M2 Q))))) :
    G κ mX11_chances 0 [.ref 119, .null, .null] [] M Q := by
  refine g_aload_n (i := 0) dX11_chances_0 rfl rfl ?_
  refine g_iconst (v := (5 : Int32)) dX11_chances_1 (by decide) ?_
  refine gc_RX11_227 rfl (Nat.le_of_ble_eq_true rfl) dX11_chances_2 sh_119 (Nat.le_of_ble_eq_true rfl) ?_
  refine Cl.mono h (fun r1 M1 h => ?_)
  refine g_istore_n (i := 1) (L' := [.ref 119, .int r1, .null]) dX11_chances_5 rfl (Nat.le_of_ble_eq_true rfl) rfl rfl ?_
  refine g_aload_n (i := 0) dX11_chances_6 rfl rfl ?_
  refine g_aload_n (i := 0) dX11_chances_7 rfl rfl ?_
  refine gf_RX11_60 rfl dX11_chances_8 sh_119 ?_
  refine gc_RX11_227 rfl (Nat.le_of_ble_eq_true rfl) dX11_chances_11 sh_119 (Nat.le_of_ble_eq_true rfl) ?_
  refine Cl.mono h (fun r2 M2 h => ?_)
  refine g_istore_n (i := 2) (L' := [.ref 119, .int r1, .int r2]) dX11_chances_14 rfl (Nat.le_of_ble_eq_true rfl) rfl rfl ?_
  refine g_iload_n (i := 1) dX11_chances_15 rfl rfl ?_
  refine g_tab (hi := 3) (dt := 119) (fun k => ([48, 69, 87, 104] : List Nat).getD k 0) dX11_chances_16 (by decide) (by decide) rfl (fun k hk hx => ?_) (fun hx => ?_)
  · rcases (show k = 0 ∨ k = 1 ∨ k = 2 ∨ k = 3 by omega) with rfl | rfl | rfl | rfl
    · replace h := h.1 hx
      show G κ mX11_chances 48 _ _ _ _
      refine g_aload_n (i := 0) dX11_chances_48 rfl rfl ?_
      refine gf_RX11_16 rfl dX11_chances_49 sh_119 ?_
      refine g_iconst (v := (2 : Int32)) dX11_chances_52 (by decide) ?_
      refine g_iload_n (i := 2) dX11_chances_53 rfl rfl ?_
      refine g_iadd dX11_chances_54 ?_
      refine g_iconst (v := (1 : Int32)) dX11_chances_55 (by decide) ?_
      refine g_aload_n (i := 0) dX11_chances_56 rfl rfl ?_
      refine g_aload_n (i := 0) dX11_chances_57 rfl rfl ?_
      refine gf_RX11_67 rfl dX11_chances_58 sh_119 ?_
      refine gc_RX11_227 rfl (Nat.le_of_ble_eq_true rfl) dX11_chances_61 sh_119 (Nat.le_of_ble_eq_true rfl) ?_
      refine Cl.mono h (fun r3 M3 h => ?_)
      refine g_ishl dX11_chances_64 ?_
      have hv1 := h.1; replace h := h.2
      refine g_iastP dX11_chances_65 sh_122 hv1 ?_
      refine g_nmM (fun M4 hM4 => ?_); replace h := h M4 hM4
      refine g_goto (tgt := 119) dX11_chances_66 rfl ?_
      exact g_sub _ (sub_c (Or.inl rfl) (sub_c (Or.inl rfl) (sub_c (Or.inl rfl) sub_n))) h
    · replace h := h.2.1 hx
      show G κ mX11_chances 69 _ _ _ _
      refine g_aload_n (i := 0) dX11_chances_69 rfl rfl ?_
      refine gf_RX11_16 rfl dX11_chances_70 sh_119 ?_
      refine g_bipush (v := (10 : Int32)) dX11_chances_73 (by decide) ?_
      refine g_iload_n (i := 2) dX11_chances_75 rfl rfl ?_
      refine g_iadd dX11_chances_76 ?_
      refine g_aload_n (i := 0) dX11_chances_77 rfl rfl ?_
      refine g_bipush (v := (10 : Int32)) dX11_chances_78 (by decide) ?_
      refine gc_RX11_227 rfl (Nat.le_of_ble_eq_true rfl) dX11_chances_80 sh_119 (Nat.le_of_ble_eq_true rfl) ?_
      refine Cl.mono h (fun r5 M5 h => ?_)
      have hv2 := h.1; replace h := h.2
      refine g_iastP dX11_chances_83 sh_122 hv2 ?_
      refine g_nmM (fun M6 hM6 => ?_); replace h := h M6 hM6
      refine g_goto (tgt := 119) dX11_chances_84 rfl ?_
      exact g_sub _ (sub_c (Or.inl rfl) (sub_c (Or.inl rfl) (sub_c (Or.inl rfl) sub_n))) h
    · replace h := h.2.2.1 hx
      show G κ mX11_chances 87 _ _ _ _
      refine g_aload_n (i := 0) dX11_chances_87 rfl rfl ?_
      refine gf_RX11_16 rfl dX11_chances_88 sh_119 ?_
      refine g_iconst (v := (1 : Int32)) dX11_chances_91 (by decide) ?_
      refine g_dup2 dX11_chances_92 rfl rfl ?_
      refine g_iald dX11_chances_93 sh_122 (by unfold vp_in; decide) ?_
      refine g_aload_n (i := 0) dX11_chances_94 rfl rfl ?_
      refine g_iload_n (i := 2) dX11_chances_95 rfl rfl ?_
      refine gc_RX11_70 rfl (Nat.le_of_ble_eq_true rfl) dX11_chances_96 sh_119 (Nat.le_of_ble_eq_true rfl) ?_
      refine Cl.mono h (fun r7 M7 h => ?_)
      refine g_ior dX11_chances_99 ?_
      refine g_iastP dX11_chances_100 sh_122 (by unfold vp_in; decide) ?_
      refine g_nmM (fun M8 hM8 => ?_); replace h := h M8 hM8
      refine g_goto (tgt := 119) dX11_chances_101 rfl ?_
      exact g_sub _ (sub_c (Or.inl rfl) (sub_c (Or.inl rfl) (sub_c (Or.inl rfl) sub_n))) h
    · replace h := h.2.2.2.1 hx
      show G κ mX11_chances 104 _ _ _ _
      refine g_aload_n (i := 0) dX11_chances_104 rfl rfl ?_
      refine g_iconst (v := (1 : Int32)) dX11_chances_105 (by decide) ?_
      refine g_aload_n (i := 0) dX11_chances_106 rfl rfl ?_
      refine g_bipush (v := (9 : Int32)) dX11_chances_107 (by decide) ?_
      refine gc_RX11_227 rfl (Nat.le_of_ble_eq_true rfl) dX11_chances_109 sh_119 (Nat.le_of_ble_eq_true rfl) ?_
      refine Cl.mono h (fun r9 M9 h => ?_)
      refine g_iadd dX11_chances_112 ?_
      refine gc_RX11_92 rfl (Nat.le_of_ble_eq_true rfl) dX11_chances_113 sh_119 (Nat.le_of_ble_eq_true rfl) ?_
      refine Cl.mono h (fun r10 M10 h => ?_)
      refine g_goto (tgt := 119) dX11_chances_116 rfl ?_
      exact g_sub _ (sub_c (Or.inl rfl) (sub_c (Or.inl rfl) (sub_c (Or.inl rfl) sub_n))) h
  · replace h := h.2.2.2.2 hx
    exact g_sub _ (sub_c (Or.inl rfl) (sub_c (Or.inl rfl) (sub_c (Or.inl rfl) sub_n))) h
theorem bX11_chances_119 {κ : gK} {M : MM} {Q : Int32 → MM → Prop} 
    (h : Q 0 M) :
    G κ mX11_chances 119 [.null, .null, .null] [] M Q := by
  exact g_vret dX11_chances_119 rfl h
theorem eX11_chances {κ : gK} {M : MM} {Q : Int32 → MM → Prop} 
    (h : G κ mX11_chances 0 [.ref 119, .null, .null] [] M Q) : Cl κ mX11_chances [.ref 119] M Q := g_entry 2 pl_X11_chances (Nat.le_of_ble_eq_true rfl) (L := [.ref 119, .null, .null]) rfl (g_sub _ (sub_c (Or.inr rfl) (sub_c (Or.inr rfl) (sub_c (Or.inr rfl) sub_n))) h)
theorem dX11_drift_0 : decode cX11_drift 0 = .ok (.iload_n 1, 1) := by decide +kernel
theorem dX11_drift_1 : decode cX11_drift 1 = .ok (.i2l, 1) := by decide +kernel
theorem dX11_drift_2 : decode cX11_drift 2 = .ok (.lconst 1, 1) := by decide +kernel
theorem dX11_drift_3 : decode cX11_drift 3 = .ok (.ldc2_w 206, 3) := by decide +kernel
theorem dX11_drift_6 : decode cX11_drift 6 = .ok (.invokestatic 63, 3) := by decide +kernel
theorem dX11_drift_9 : decode cX11_drift 9 = .ok (.ifCond .ne 6, 3) := by decide +kernel
theorem dX11_drift_12 : decode cX11_drift 12 = .ok (.ldc 112, 2) := by decide +kernel
theorem dX11_drift_14 : decode cX11_drift 14 = .ok (.ireturn, 1) := by decide +kernel
theorem dX11_drift_15 : decode cX11_drift 15 = .ok (.aload_n 0, 1) := by decide +kernel
theorem dX11_drift_16 : decode cX11_drift 16 = .ok (.invokevirtual 179, 3) := by decide +kernel
theorem dX11_drift_19 : decode cX11_drift 19 = .ok (.ifCond .ne 6, 3) := by decide +kernel
theorem dX11_drift_22 : decode cX11_drift 22 = .ok (.ldc 208, 2) := by decide +kernel
theorem dX11_drift_24 : decode cX11_drift 24 = .ok (.ireturn, 1) := by decide +kernel
theorem dX11_drift_25 : decode cX11_drift 25 = .ok (.aload_n 0, 1) := by decide +kernel
theorem dX11_drift_26 : decode cX11_drift 26 = .ok (.getfield 16, 3) := by decide +kernel
theorem dX11_drift_29 : decode cX11_drift 29 = .ok (.iconst 0, 1) := by decide +kernel
theorem dX11_drift_30 : decode cX11_drift 30 = .ok (.iaload, 1) := by decide +kernel
theorem dX11_drift_31 : decode cX11_drift 31 = .ok (.sipush 9000, 3) := by decide +kernel
theorem dX11_drift_34 : decode cX11_drift 34 = .ok (.if_icmp .le 6, 3) := by decide +kernel
theorem dX11_drift_37 : decode cX11_drift 37 = .ok (.ldc 116, 2) := by decide +kernel
theorem dX11_drift_39 : decode cX11_drift 39 = .ok (.ireturn, 1) := by decide +kernel
theorem dX11_drift_40 : decode cX11_drift 40 = .ok (.aload_n 0, 1) := by decide +kernel
theorem dX11_drift_41 : decode cX11_drift 41 = .ok (.invokevirtual 209, 3) := by decide +kernel
theorem dX11_drift_44 : decode cX11_drift 44 = .ok (.iconst 0, 1) := by decide +kernel
theorem dX11_drift_45 : decode cX11_drift 45 = .ok (.istore_n 2, 1) := by decide +kernel
theorem dX11_drift_46 : decode cX11_drift 46 = .ok (.iload_n 2, 1) := by decide +kernel
theorem dX11_drift_47 : decode cX11_drift 47 = .ok (.iload_n 1, 1) := by decide +kernel
theorem dX11_drift_48 : decode cX11_drift 48 = .ok (.if_icmp .ge 25, 3) := by decide +kernel
theorem dX11_drift_51 : decode cX11_drift 51 = .ok (.aload_n 0, 1) := by decide +kernel
theorem dX11_drift_52 : decode cX11_drift 52 = .ok (.getfield 60, 3) := by decide +kernel
theorem dX11_drift_55 : decode cX11_drift 55 = .ok (.ifCond .le 7, 3) := by decide +kernel
theorem dX11_drift_58 : decode cX11_drift 58 = .ok (.aload_n 0, 1) := by decide +kernel
theorem dX11_drift_59 : decode cX11_drift 59 = .ok (.invokevirtual 230, 3) := by decide +kernel
theorem dX11_drift_62 : decode cX11_drift 62 = .ok (.aload_n 0, 1) := by decide +kernel
theorem dX11_drift_63 : decode cX11_drift 63 = .ok (.iconst 1, 1) := by decide +kernel
theorem dX11_drift_64 : decode cX11_drift 64 = .ok (.invokevirtual 212, 3) := by decide +kernel
theorem dX11_drift_67 : decode cX11_drift 67 = .ok (.iinc 2 1, 3) := by decide +kernel
theorem dX11_drift_70 : decode cX11_drift 70 = .ok (.goto (-24), 3) := by decide +kernel
theorem dX11_drift_73 : decode cX11_drift 73 = .ok (.aload_n 0, 1) := by decide +kernel
theorem dX11_drift_74 : decode cX11_drift 74 = .ok (.getfield 16, 3) := by decide +kernel
theorem dX11_drift_77 : decode cX11_drift 77 = .ok (.iconst 0, 1) := by decide +kernel
theorem dX11_drift_78 : decode cX11_drift 78 = .ok (.iaload, 1) := by decide +kernel
theorem dX11_drift_79 : decode cX11_drift 79 = .ok (.ireturn, 1) := by decide +kernel
theorem bX11_drift_0 {κ : gK} {M : MM} {Q : Int32 → MM → Prop} (l1 : Int32)
    (h : Cl κ mX11_in [.long (l1).toInt64, .long (1 : Int64), .long (60 : Int64)] M (fun r1 M1 => ((r1 = 0 → Q (-1000000002 : Int32) M1) ∧ (¬ r1 = 0 → Cl κ mX11_isTown [.ref 119] M1 (fun r2 M2 => ((r2 = 0 → Q (-1000000003 : Int32) M2) ∧ (¬ r2 = 0 → (((M2 122 0) ≤ (9000 : Int32) → Cl κ mX11_notes [.ref 119] M2 (fun _ M3 => G κ mX11_drift 46 [.ref 119, .int l1, .int (0 : Int32)] [] M3 Q)) ∧ (¬ (M2 122 0) ≤ (9000 : Int32) → Q (-1000000004 : Int32) M2))))))))) :
    G κ mX11_drift 0 [.ref 119, .int l1, .null] [] M Q := by
  refine g_iload_n (i := 1) dX11_drift_0 rfl rfl ?_
  refine g_i2l dX11_drift_1 ?_
  refine g_lconst (v := (1 : Int64)) dX11_drift_2 (by decide) ?_
  refine g_ldc2 dX11_drift_3 wt_1001 ?_
  refine gc_RX11_63 rfl (Nat.le_of_ble_eq_true rfl) dX11_drift_6 (Nat.le_of_ble_eq_true rfl) ?_
  refine Cl.mono h (fun r1 M1 h => ?_)
  refine g_if_ne (tgt := 15) dX11_drift_9 rfl ⟨fun hc => ?_, fun hc => ?_⟩
  · replace h := h.1 hc
    refine g_ldc dX11_drift_12 wt_873 ?_
    exact g_iret dX11_drift_14 rfl h
  · replace h := h.2 hc
    refine g_aload_n (i := 0) dX11_drift_15 rfl rfl ?_
    refine gc_RX11_179 rfl (Nat.le_of_ble_eq_true rfl) dX11_drift_16 sh_119 (Nat.le_of_ble_eq_true rfl) ?_
    refine Cl.mono h (fun r2 M2 h => ?_)
    refine g_if_ne (tgt := 25) dX11_drift_19 rfl ⟨fun hc => ?_, fun hc => ?_⟩
    · replace h := h.1 hc
      refine g_ldc dX11_drift_22 wt_1002 ?_
      exact g_iret dX11_drift_24 rfl h
    · replace h := h.2 hc
      refine g_aload_n (i := 0) dX11_drift_25 rfl rfl ?_
      refine gf_RX11_16 rfl dX11_drift_26 sh_119 ?_
      refine g_iconst (v := (0 : Int32)) dX11_drift_29 (by decide) ?_
      refine g_iald dX11_drift_30 sh_122 (by unfold vp_in; decide) ?_
      refine g_sipush (v := (9000 : Int32)) dX11_drift_31 (by decide) ?_
      refine g_icmp_le (tgt := 40) dX11_drift_34 rfl ⟨fun hc => ?_, fun hc => ?_⟩
      · replace h := h.1 hc
        refine g_aload_n (i := 0) dX11_drift_40 rfl rfl ?_
        refine gc_RX11_209 rfl (Nat.le_of_ble_eq_true rfl) dX11_drift_41 sh_119 (Nat.le_of_ble_eq_true rfl) ?_
        refine Cl.mono h (fun r3 M3 h => ?_)
        refine g_iconst (v := (0 : Int32)) dX11_drift_44 (by decide) ?_
        refine g_istore_n (i := 2) (L' := [.ref 119, .int l1, .int (0 : Int32)]) dX11_drift_45 rfl (Nat.le_of_ble_eq_true rfl) rfl rfl ?_
        exact h
      · replace h := h.2 hc
        refine g_ldc dX11_drift_37 wt_874 ?_
        exact g_iret dX11_drift_39 rfl h
theorem bX11_drift_46 {κ : gK} {M : MM} {Q : Int32 → MM → Prop} (l1 : Int32) (l2 : Int32)
    (h : ((l1 ≤ l2 → Q (M 122 0) M) ∧ (¬ l1 ≤ l2 → (((M 119 2) ≤ 0 → G κ mX11_drift 62 [.ref 119, .int l1, .int l2] [] M Q) ∧ (¬ (M 119 2) ≤ 0 → Cl κ mX11_chances [.ref 119] M (fun _ M1 => G κ mX11_drift 62 [.ref 119, .int l1, .int l2] [] M1 Q)))))) :
    G κ mX11_drift 46 [.ref 119, .int l1, .int l2] [] M Q := by
  refine g_iload_n (i := 2) dX11_drift_46 rfl rfl ?_
  refine g_iload_n (i := 1) dX11_drift_47 rfl rfl ?_
  refine g_icmp_ge (tgt := 73) dX11_drift_48 rfl ⟨fun hc => ?_, fun hc => ?_⟩
  · replace h := h.1 hc
    refine g_aload_n (i := 0) dX11_drift_73 rfl rfl ?_
    refine gf_RX11_16 rfl dX11_drift_74 sh_119 ?_
    refine g_iconst (v := (0 : Int32)) dX11_drift_77 (by decide) ?_
    refine g_iald dX11_drift_78 sh_122 (by unfold vp_in; decide) ?_
    exact g_iret dX11_drift_79 rfl h
  · replace h := h.2 hc
    refine g_aload_n (i := 0) dX11_drift_51 rfl rfl ?_
    refine gf_RX11_60 rfl dX11_drift_52 sh_119 ?_
    refine g_if_le (tgt := 62) dX11_drift_55 rfl ⟨fun hc => ?_, fun hc => ?_⟩
    · replace h := h.1 hc
      exact h
    · replace h := h.2 hc
      refine g_aload_n (i := 0) dX11_drift_58 rfl rfl ?_
      refine gc_RX11_230 rfl (Nat.le_of_ble_eq_true rfl) dX11_drift_59 sh_119 (Nat.le_of_ble_eq_true rfl) ?_
      refine Cl.mono h (fun r1 M1 h => ?_)
      exact h
theorem bX11_drift_62 {κ : gK} {M : MM} {Q : Int32 → MM → Prop} (l1 : Int32) (l2 : Int32)
    (h : Cl κ mX11_goesOn [.ref 119, .int (1 : Int32)] M (fun _ M1 => G κ mX11_drift 46 [.ref 119, .int l1, .int (l2 + 1)] [] M1 Q)) :
    G κ mX11_drift 62 [.ref 119, .int l1, .int l2] [] M Q := by
  refine g_aload_n (i := 0) dX11_drift_62 rfl rfl ?_
  refine g_iconst (v := (1 : Int32)) dX11_drift_63 (by decide) ?_
  refine gc_RX11_212 rfl (Nat.le_of_ble_eq_true rfl) dX11_drift_64 sh_119 (Nat.le_of_ble_eq_true rfl) ?_
  refine Cl.mono h (fun r1 M1 h => ?_)
  refine g_iinc (v := (l2 + 1)) (L' := [.ref 119, .int l1, .int (l2 + 1)]) dX11_drift_67 rfl rfl (Nat.le_of_ble_eq_true rfl) rfl rfl ?_
  refine g_goto (tgt := 46) dX11_drift_70 rfl ?_
  exact h
theorem eX11_drift {κ : gK} {M : MM} {Q : Int32 → MM → Prop} (l1 : Int32)
    (h : G κ mX11_drift 0 [.ref 119, .int l1, .null] [] M Q) : Cl κ mX11_drift [.ref 119, .int l1] M Q := g_entry 1 pl_X11_drift (Nat.le_of_ble_eq_true rfl) (L := [.ref 119, .int l1, .null]) rfl (g_sub _ (sub_c (Or.inr rfl) (sub_c (Or.inr rfl) (sub_c (Or.inr rfl) sub_n))) h)
theorem dX11_undo_0 : decode cX11_undo 0 = .ok (.aload_n 0, 1) := by decide +kernel
theorem dX11_undo_1 : decode cX11_undo 1 = .ok (.getfield 176, 3) := by decide +kernel
theorem dX11_undo_4 : decode cX11_undo 4 = .ok (.ifCond .ne 6, 3) := by decide +kernel
theorem dX11_undo_7 : decode cX11_undo 7 = .ok (.ldc 208, 2) := by decide +kernel
theorem dX11_undo_9 : decode cX11_undo 9 = .ok (.ireturn, 1) := by decide +kernel
theorem dX11_undo_10 : decode cX11_undo 10 = .ok (.aload_n 0, 1) := by decide +kernel
theorem dX11_undo_11 : decode cX11_undo 11 = .ok (.dup, 1) := by decide +kernel
theorem dX11_undo_12 : decode cX11_undo 12 = .ok (.getfield 176, 3) := by decide +kernel
theorem dX11_undo_15 : decode cX11_undo 15 = .ok (.iconst 1, 1) := by decide +kernel
theorem dX11_undo_16 : decode cX11_undo 16 = .ok (.isub, 1) := by decide +kernel
theorem dX11_undo_17 : decode cX11_undo 17 = .ok (.putfield 176, 3) := by decide +kernel
theorem dX11_undo_20 : decode cX11_undo 20 = .ok (.iconst 0, 1) := by decide +kernel
theorem dX11_undo_21 : decode cX11_undo 21 = .ok (.istore_n 1, 1) := by decide +kernel
theorem dX11_undo_22 : decode cX11_undo 22 = .ok (.iload_n 1, 1) := by decide +kernel
theorem dX11_undo_23 : decode cX11_undo 23 = .ok (.bipush 26, 2) := by decide +kernel
theorem dX11_undo_25 : decode cX11_undo 25 = .ok (.if_icmp .ge 29, 3) := by decide +kernel
theorem dX11_undo_28 : decode cX11_undo 28 = .ok (.aload_n 0, 1) := by decide +kernel
theorem dX11_undo_29 : decode cX11_undo 29 = .ok (.getfield 16, 3) := by decide +kernel
theorem dX11_undo_32 : decode cX11_undo 32 = .ok (.iload_n 1, 1) := by decide +kernel
theorem dX11_undo_33 : decode cX11_undo 33 = .ok (.aload_n 0, 1) := by decide +kernel
theorem dX11_undo_34 : decode cX11_undo 34 = .ok (.getfield 32, 3) := by decide +kernel
theorem dX11_undo_37 : decode cX11_undo 37 = .ok (.bipush 26, 2) := by decide +kernel
theorem dX11_undo_39 : decode cX11_undo 39 = .ok (.aload_n 0, 1) := by decide +kernel
theorem dX11_undo_40 : decode cX11_undo 40 = .ok (.getfield 176, 3) := by decide +kernel
theorem dX11_undo_43 : decode cX11_undo 43 = .ok (.imul, 1) := by decide +kernel
theorem dX11_undo_44 : decode cX11_undo 44 = .ok (.iload_n 1, 1) := by decide +kernel
theorem dX11_undo_45 : decode cX11_undo 45 = .ok (.iadd, 1) := by decide +kernel
theorem dX11_undo_46 : decode cX11_undo 46 = .ok (.iaload, 1) := by decide +kernel
theorem dX11_undo_47 : decode cX11_undo 47 = .ok (.iastore, 1) := by decide +kernel
theorem dX11_undo_48 : decode cX11_undo 48 = .ok (.iinc 1 1, 3) := by decide +kernel
theorem dX11_undo_51 : decode cX11_undo 51 = .ok (.goto (-29), 3) := by decide +kernel
theorem dX11_undo_54 : decode cX11_undo 54 = .ok (.aload_n 0, 1) := by decide +kernel
theorem dX11_undo_55 : decode cX11_undo 55 = .ok (.getfield 176, 3) := by decide +kernel
theorem dX11_undo_58 : decode cX11_undo 58 = .ok (.ireturn, 1) := by decide +kernel
theorem bX11_undo_0 {κ : gK} {M : MM} {Q : Int32 → MM → Prop} 
    (h : (((M 119 19) = 0 → Q (-1000000003 : Int32) M) ∧ (¬ (M 119 19) = 0 → ∀ M1 : MM, M1 = (pt M 119 19 ((M 119 19) - (1 : Int32))) → (G κ mX11_undo 22 [.ref 119, .int (0 : Int32)] [] M1 Q)))) :
    G κ mX11_undo 0 [.ref 119, .null] [] M Q := by
  refine g_aload_n (i := 0) dX11_undo_0 rfl rfl ?_
  refine gf_RX11_176 rfl dX11_undo_1 sh_119 ?_
  refine g_if_ne (tgt := 10) dX11_undo_4 rfl ⟨fun hc => ?_, fun hc => ?_⟩
  · replace h := h.1 hc
    refine g_ldc dX11_undo_7 wt_1002 ?_
    exact g_iret dX11_undo_9 rfl h
  · replace h := h.2 hc
    refine g_aload_n (i := 0) dX11_undo_10 rfl rfl ?_
    refine g_dup dX11_undo_11 rfl ?_
    refine gf_RX11_176 rfl dX11_undo_12 sh_119 ?_
    refine g_iconst (v := (1 : Int32)) dX11_undo_15 (by decide) ?_
    refine g_isub dX11_undo_16 ?_
    refine gp_RX11_176 rfl dX11_undo_17 sh_119 ?_
    refine g_nmM (fun M1 hM1 => ?_); replace h := h M1 hM1
    refine g_iconst (v := (0 : Int32)) dX11_undo_20 (by decide) ?_
    refine g_istore_n (i := 1) (L' := [.ref 119, .int (0 : Int32)]) dX11_undo_21 rfl (Nat.le_of_ble_eq_true rfl) rfl rfl ?_
    exact h
theorem bX11_undo_22 {κ : gK} {M : MM} {Q : Int32 → MM → Prop} (l1 : Int32)
    (h : (((26 : Int32) ≤ l1 → Q (M 119 19) M) ∧ (¬ (26 : Int32) ≤ l1 → (vp_in (((26 : Int32) * (M 119 19)) + l1) 416) ∧ ((vp_in l1 26) ∧ (∀ M1 : MM, M1 = (pt M 122 (l1).toNatClampNeg (M 126 ((((26 : Int32) * (M 119 19)) + l1)).toNatClampNeg)) → (G κ mX11_undo 22 [.ref 119, .int (l1 + 1)] [] M1 Q)))))) :
    G κ mX11_undo 22 [.ref 119, .int l1] [] M Q := by
  refine g_iload_n (i := 1) dX11_undo_22 rfl rfl ?_
  refine g_bipush (v := (26 : Int32)) dX11_undo_23 (by decide) ?_
  refine g_icmp_ge (tgt := 54) dX11_undo_25 rfl ⟨fun hc => ?_, fun hc => ?_⟩
  · replace h := h.1 hc
    refine g_aload_n (i := 0) dX11_undo_54 rfl rfl ?_
    refine gf_RX11_176 rfl dX11_undo_55 sh_119 ?_
    exact g_iret dX11_undo_58 rfl h
  · replace h := h.2 hc
    refine g_aload_n (i := 0) dX11_undo_28 rfl rfl ?_
    refine gf_RX11_16 rfl dX11_undo_29 sh_119 ?_
    refine g_iload_n (i := 1) dX11_undo_32 rfl rfl ?_
    refine g_aload_n (i := 0) dX11_undo_33 rfl rfl ?_
    refine gf_RX11_32 rfl dX11_undo_34 sh_119 ?_
    refine g_bipush (v := (26 : Int32)) dX11_undo_37 (by decide) ?_
    refine g_aload_n (i := 0) dX11_undo_39 rfl rfl ?_
    refine gf_RX11_176 rfl dX11_undo_40 sh_119 ?_
    refine g_imul dX11_undo_43 ?_
    refine g_iload_n (i := 1) dX11_undo_44 rfl rfl ?_
    refine g_iadd dX11_undo_45 ?_
    have hv1 := h.1; replace h := h.2
    refine g_iald dX11_undo_46 sh_126 hv1 ?_
    have hv2 := h.1; replace h := h.2
    refine g_iastP dX11_undo_47 sh_122 hv2 ?_
    refine g_nmM (fun M1 hM1 => ?_); replace h := h M1 hM1
    refine g_iinc (v := (l1 + 1)) (L' := [.ref 119, .int (l1 + 1)]) dX11_undo_48 rfl rfl (Nat.le_of_ble_eq_true rfl) rfl rfl ?_
    refine g_goto (tgt := 22) dX11_undo_51 rfl ?_
    exact h
theorem eX11_undo {κ : gK} {M : MM} {Q : Int32 → MM → Prop} 
    (h : G κ mX11_undo 0 [.ref 119, .null] [] M Q) : Cl κ mX11_undo [.ref 119] M Q := g_entry 1 pl_X11_undo (Nat.le_of_ble_eq_true rfl) (L := [.ref 119, .null]) rfl (g_sub _ (sub_c (Or.inr rfl) (sub_c (Or.inr rfl) sub_n)) h)
