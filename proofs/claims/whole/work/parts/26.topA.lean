theorem dX10_feed_0 : decode cX10_feed 0 = .ok (.iload_n 1, 1) := by decide +kernel
theorem dX10_feed_1 : decode cX10_feed 1 = .ok (.ifCond .lt 10, 3) := by decide +kernel
theorem dX10_feed_4 : decode cX10_feed 4 = .ok (.iload_n 1, 1) := by decide +kernel
theorem dX10_feed_5 : decode cX10_feed 5 = .ok (.sipush 255, 3) := by decide +kernel
theorem dX10_feed_8 : decode cX10_feed 8 = .ok (.if_icmp .le 6, 3) := by decide +kernel
theorem dX10_feed_11 : decode cX10_feed 11 = .ok (.ldc 92, 2) := by decide +kernel
theorem dX10_feed_13 : decode cX10_feed 13 = .ok (.ireturn, 1) := by decide +kernel
theorem dX10_feed_14 : decode cX10_feed 14 = .ok (.aload_n 0, 1) := by decide +kernel
theorem dX10_feed_15 : decode cX10_feed 15 = .ok (.getfield 22, 3) := by decide +kernel
theorem dX10_feed_18 : decode cX10_feed 18 = .ok (.getfield 93, 3) := by decide +kernel
theorem dX10_feed_21 : decode cX10_feed 21 = .ok (.sipush 240, 3) := by decide +kernel
theorem dX10_feed_24 : decode cX10_feed 24 = .ok (.if_icmp .lt 6, 3) := by decide +kernel
theorem dX10_feed_27 : decode cX10_feed 27 = .ok (.ldc 96, 2) := by decide +kernel
theorem dX10_feed_29 : decode cX10_feed 29 = .ok (.ireturn, 1) := by decide +kernel
theorem dX10_feed_30 : decode cX10_feed 30 = .ok (.aload_n 0, 1) := by decide +kernel
theorem dX10_feed_31 : decode cX10_feed 31 = .ok (.getfield 22, 3) := by decide +kernel
theorem dX10_feed_34 : decode cX10_feed 34 = .ok (.iload_n 1, 1) := by decide +kernel
theorem dX10_feed_35 : decode cX10_feed 35 = .ok (.invokevirtual 97, 3) := by decide +kernel
theorem dX10_feed_38 : decode cX10_feed 38 = .ok (.ireturn, 1) := by decide +kernel
theorem bX10_feed_0 {κ : gK} {M : MM} {Q : Int32 → MM → Prop} (l1 : Int32)
    (h : ((l1 < 0 → G κ mX10_feed 11 [.null, .null] [] M Q) ∧ (¬ l1 < 0 → ((l1 ≤ (255 : Int32) → (((M 11 1) < (240 : Int32) → Cl κ mX5_add [.ref 11, .int l1] M (fun r1 M1 => Q r1 M1)) ∧ (¬ (M 11 1) < (240 : Int32) → Q (-1000000004 : Int32) M))) ∧ (¬ l1 ≤ (255 : Int32) → G κ mX10_feed 11 [.null, .null] [] M Q))))) :
    G κ mX10_feed 0 [.ref 0, .int l1] [] M Q := by
  refine g_iload_n (i := 1) dX10_feed_0 rfl rfl ?_
  refine g_if_lt (tgt := 11) dX10_feed_1 rfl ⟨fun hc => ?_, fun hc => ?_⟩
  · replace h := h.1 hc
    exact g_sub _ (sub_c (Or.inl rfl) (sub_c (Or.inl rfl) sub_n)) h
  · replace h := h.2 hc
    refine g_iload_n (i := 1) dX10_feed_4 rfl rfl ?_
    refine g_sipush (v := (255 : Int32)) dX10_feed_5 (by decide) ?_
    refine g_icmp_le (tgt := 14) dX10_feed_8 rfl ⟨fun hc => ?_, fun hc => ?_⟩
    · replace h := h.1 hc
      refine g_aload_n (i := 0) dX10_feed_14 rfl rfl ?_
      refine gf_RX10_22 rfl dX10_feed_15 sh_0 ?_
      refine gf_RX10_93 rfl dX10_feed_18 sh_11 ?_
      refine g_sipush (v := (240 : Int32)) dX10_feed_21 (by decide) ?_
      refine g_icmp_lt (tgt := 30) dX10_feed_24 rfl ⟨fun hc => ?_, fun hc => ?_⟩
      · replace h := h.1 hc
        refine g_aload_n (i := 0) dX10_feed_30 rfl rfl ?_
        refine gf_RX10_22 rfl dX10_feed_31 sh_0 ?_
        refine g_iload_n (i := 1) dX10_feed_34 rfl rfl ?_
        refine gc_RX10_97 rfl (Nat.le_of_ble_eq_true rfl) dX10_feed_35 sh_11 (Nat.le_of_ble_eq_true rfl) ?_
        refine Cl.mono h (fun r1 M1 h => ?_)
        exact g_iret dX10_feed_38 rfl h
      · replace h := h.2 hc
        refine g_ldc dX10_feed_27 wt_310 ?_
        exact g_iret dX10_feed_29 rfl h
    · replace h := h.2 hc
      exact g_sub _ (sub_c (Or.inl rfl) (sub_c (Or.inl rfl) sub_n)) h
theorem bX10_feed_11 {κ : gK} {M : MM} {Q : Int32 → MM → Prop} 
    (h : Q (-1000000002 : Int32) M) :
    G κ mX10_feed 11 [.null, .null] [] M Q := by
  refine g_ldc dX10_feed_11 wt_309 ?_
  exact g_iret dX10_feed_13 rfl h
theorem eX10_feed {κ : gK} {M : MM} {Q : Int32 → MM → Prop} (l1 : Int32)
    (h : G κ mX10_feed 0 [.ref 0, .int l1] [] M Q) : Cl κ mX10_feed [.ref 0, .int l1] M Q := g_entry 0 pl_X10_feed (Nat.le_of_ble_eq_true rfl) (L := [.ref 0, .int l1]) rfl (g_sub _ (sub_c (Or.inr rfl) (sub_c (Or.inr rfl) sub_n)) h)
theorem dX10_town_0 : decode cX10_town 0 = .ok (.aload_n 0, 1) := by decide +kernel
theorem dX10_town_1 : decode cX10_town 1 = .ok (.getfield 22, 3) := by decide +kernel
theorem dX10_town_4 : decode cX10_town 4 = .ok (.aload_n 0, 1) := by decide +kernel
theorem dX10_town_5 : decode cX10_town 5 = .ok (.getfield 16, 3) := by decide +kernel
theorem dX10_town_8 : decode cX10_town 8 = .ok (.invokevirtual 101, 3) := by decide +kernel
theorem dX10_town_11 : decode cX10_town 11 = .ok (.istore_n 1, 1) := by decide +kernel
theorem dX10_town_12 : decode cX10_town 12 = .ok (.aload_n 0, 1) := by decide +kernel
theorem dX10_town_13 : decode cX10_town 13 = .ok (.aload_n 0, 1) := by decide +kernel
theorem dX10_town_14 : decode cX10_town 14 = .ok (.getfield 22, 3) := by decide +kernel
theorem dX10_town_17 : decode cX10_town 17 = .ok (.getfield 105, 3) := by decide +kernel
theorem dX10_town_20 : decode cX10_town 20 = .ok (.putfield 85, 3) := by decide +kernel
theorem dX10_town_23 : decode cX10_town 23 = .ok (.iload_n 1, 1) := by decide +kernel
theorem dX10_town_24 : decode cX10_town 24 = .ok (.ifCond .eq 8, 3) := by decide +kernel
theorem dX10_town_27 : decode cX10_town 27 = .ok (.bipush (-10), 2) := by decide +kernel
theorem dX10_town_29 : decode cX10_town 29 = .ok (.iload_n 1, 1) := by decide +kernel
theorem dX10_town_30 : decode cX10_town 30 = .ok (.isub, 1) := by decide +kernel
theorem dX10_town_31 : decode cX10_town 31 = .ok (.ireturn, 1) := by decide +kernel
theorem dX10_town_32 : decode cX10_town 32 = .ok (.aload_n 0, 1) := by decide +kernel
theorem dX10_town_33 : decode cX10_town 33 = .ok (.getfield 12, 3) := by decide +kernel
theorem dX10_town_36 : decode cX10_town 36 = .ok (.aload_n 0, 1) := by decide +kernel
theorem dX10_town_37 : decode cX10_town 37 = .ok (.getfield 16, 3) := by decide +kernel
theorem dX10_town_40 : decode cX10_town 40 = .ok (.invokevirtual 108, 3) := by decide +kernel
theorem dX10_town_43 : decode cX10_town 43 = .ok (.aload_n 0, 1) := by decide +kernel
theorem dX10_town_44 : decode cX10_town 44 = .ok (.getfield 29, 3) := by decide +kernel
theorem dX10_town_47 : decode cX10_town 47 = .ok (.aload_n 0, 1) := by decide +kernel
theorem dX10_town_48 : decode cX10_town 48 = .ok (.getfield 12, 3) := by decide +kernel
theorem dX10_town_51 : decode cX10_town 51 = .ok (.invokevirtual 112, 3) := by decide +kernel
theorem dX10_town_54 : decode cX10_town 54 = .ok (.aload_n 0, 1) := by decide +kernel
theorem dX10_town_55 : decode cX10_town 55 = .ok (.getfield 39, 3) := by decide +kernel
theorem dX10_town_58 : decode cX10_town 58 = .ok (.invokevirtual 115, 3) := by decide +kernel
theorem dX10_town_61 : decode cX10_town 61 = .ok (.aload_n 0, 1) := by decide +kernel
theorem dX10_town_62 : decode cX10_town 62 = .ok (.getfield 46, 3) := by decide +kernel
theorem dX10_town_65 : decode cX10_town 65 = .ok (.invokevirtual 118, 3) := by decide +kernel
theorem dX10_town_68 : decode cX10_town 68 = .ok (.aload_n 0, 1) := by decide +kernel
theorem dX10_town_69 : decode cX10_town 69 = .ok (.invokevirtual 119, 3) := by decide +kernel
theorem dX10_town_72 : decode cX10_town 72 = .ok (.pop, 1) := by decide +kernel
theorem dX10_town_73 : decode cX10_town 73 = .ok (.aload_n 0, 1) := by decide +kernel
theorem dX10_town_74 : decode cX10_town 74 = .ok (.getfield 12, 3) := by decide +kernel
theorem dX10_town_77 : decode cX10_town 77 = .ok (.getfield 123, 3) := by decide +kernel
theorem dX10_town_80 : decode cX10_town 80 = .ok (.ireturn, 1) := by decide +kernel
theorem bX10_town_0 {κ : gK} {M : MM} {Q : Int32 → MM → Prop} 
    (h : Cl κ mX5_readInto [.ref 11, .ref 6] M (fun r1 M1 => ∀ M2 : MM, M2 = (pt M1 0 12 (M1 11 4)) → (((r1 = 0 → Cl κ mX9_copyFrom [.ref 1, .ref 6] M2 (fun _ M3 => Cl κ mX8_begin [.ref 13, .ref 1] M3 (fun _ M4 => Cl κ mX4_forget [.ref 21] M4 (fun _ M5 => Cl κ mX2_forget [.ref 87] M5 (fun _ M6 => Cl κ mX10_tearAll [.ref 0] M6 (fun r7 M7 => Q (M7 1 6) M7)))))) ∧ (¬ r1 = 0 → Q ((-10 : Int32) - r1) M2))))) :
    G κ mX10_town 0 [.ref 0, .null] [] M Q := by
  refine g_aload_n (i := 0) dX10_town_0 rfl rfl ?_
  refine gf_RX10_22 rfl dX10_town_1 sh_0 ?_
  refine g_aload_n (i := 0) dX10_town_4 rfl rfl ?_
  refine gf_RX10_16 rfl dX10_town_5 sh_0 ?_
  refine gc_RX10_101 rfl (Nat.le_of_ble_eq_true rfl) dX10_town_8 sh_11 (Nat.le_of_ble_eq_true rfl) ?_
  refine Cl.mono h (fun r1 M1 h => ?_)
  refine g_istore_n (i := 1) (L' := [.ref 0, .int r1]) dX10_town_11 rfl (Nat.le_of_ble_eq_true rfl) rfl rfl ?_
  refine g_aload_n (i := 0) dX10_town_12 rfl rfl ?_
  refine g_aload_n (i := 0) dX10_town_13 rfl rfl ?_
  refine gf_RX10_22 rfl dX10_town_14 sh_0 ?_
  refine gf_RX10_105 rfl dX10_town_17 sh_11 ?_
  refine gp_RX10_85 rfl dX10_town_20 sh_0 ?_
  refine g_nmM (fun M2 hM2 => ?_); replace h := h M2 hM2
  refine g_iload_n (i := 1) dX10_town_23 rfl rfl ?_
  refine g_if_eq (tgt := 32) dX10_town_24 rfl ⟨fun hc => ?_, fun hc => ?_⟩
  · replace h := h.1 hc
    refine g_aload_n (i := 0) dX10_town_32 rfl rfl ?_
    refine gf_RX10_12 rfl dX10_town_33 sh_0 ?_
    refine g_aload_n (i := 0) dX10_town_36 rfl rfl ?_
    refine gf_RX10_16 rfl dX10_town_37 sh_0 ?_
    refine gc_RX10_108 rfl (Nat.le_of_ble_eq_true rfl) dX10_town_40 sh_1 (Nat.le_of_ble_eq_true rfl) ?_
    refine Cl.mono h (fun r3 M3 h => ?_)
    refine g_aload_n (i := 0) dX10_town_43 rfl rfl ?_
    refine gf_RX10_29 rfl dX10_town_44 sh_0 ?_
    refine g_aload_n (i := 0) dX10_town_47 rfl rfl ?_
    refine gf_RX10_12 rfl dX10_town_48 sh_0 ?_
    refine gc_RX10_112 rfl (Nat.le_of_ble_eq_true rfl) dX10_town_51 sh_13 (Nat.le_of_ble_eq_true rfl) ?_
    refine Cl.mono h (fun r4 M4 h => ?_)
    refine g_aload_n (i := 0) dX10_town_54 rfl rfl ?_
    refine gf_RX10_39 rfl dX10_town_55 sh_0 ?_
    refine gc_RX10_115 rfl (Nat.le_of_ble_eq_true rfl) dX10_town_58 sh_21 (Nat.le_of_ble_eq_true rfl) ?_
    refine Cl.mono h (fun r5 M5 h => ?_)
    refine g_aload_n (i := 0) dX10_town_61 rfl rfl ?_
    refine gf_RX10_46 rfl dX10_town_62 sh_0 ?_
    refine gc_RX10_118 rfl (Nat.le_of_ble_eq_true rfl) dX10_town_65 sh_87 (Nat.le_of_ble_eq_true rfl) ?_
    refine Cl.mono h (fun r6 M6 h => ?_)
    refine g_aload_n (i := 0) dX10_town_68 rfl rfl ?_
    refine gc_RX10_119 rfl (Nat.le_of_ble_eq_true rfl) dX10_town_69 sh_0 (Nat.le_of_ble_eq_true rfl) ?_
    refine Cl.mono h (fun r7 M7 h => ?_)
    refine g_pop dX10_town_72 rfl ?_
    refine g_aload_n (i := 0) dX10_town_73 rfl rfl ?_
    refine gf_RX10_12 rfl dX10_town_74 sh_0 ?_
    refine gf_RX10_123 rfl dX10_town_77 sh_1 ?_
    exact g_iret dX10_town_80 rfl h
  · replace h := h.2 hc
    refine g_bipush (v := (-10 : Int32)) dX10_town_27 (by decide) ?_
    refine g_iload_n (i := 1) dX10_town_29 rfl rfl ?_
    refine g_isub dX10_town_30 ?_
    exact g_iret dX10_town_31 rfl h
theorem eX10_town {κ : gK} {M : MM} {Q : Int32 → MM → Prop} 
    (h : G κ mX10_town 0 [.ref 0, .null] [] M Q) : Cl κ mX10_town [.ref 0] M Q := g_entry 1 pl_X10_town (Nat.le_of_ble_eq_true rfl) (L := [.ref 0, .null]) rfl (g_sub _ (sub_c (Or.inr rfl) (sub_c (Or.inr rfl) sub_n)) h)
theorem dX10_fault_0 : decode cX10_fault 0 = .ok (.aload_n 0, 1) := by decide +kernel
theorem dX10_fault_1 : decode cX10_fault 1 = .ok (.getfield 85, 3) := by decide +kernel
theorem dX10_fault_4 : decode cX10_fault 4 = .ok (.ireturn, 1) := by decide +kernel
theorem bX10_fault_0 {κ : gK} {M : MM} {Q : Int32 → MM → Prop} 
    (h : Q (M 0 12) M) :
    G κ mX10_fault 0 [.ref 0] [] M Q := by
  refine g_aload_n (i := 0) dX10_fault_0 rfl rfl ?_
  refine gf_RX10_85 rfl dX10_fault_1 sh_0 ?_
  exact g_iret dX10_fault_4 rfl h
theorem eX10_fault {κ : gK} {M : MM} {Q : Int32 → MM → Prop} 
    (h : G κ mX10_fault 0 [.ref 0] [] M Q) : Cl κ mX10_fault [.ref 0] M Q := g_entry 0 pl_X10_fault (Nat.le_of_ble_eq_true rfl) (L := [.ref 0]) rfl (g_sub _ (sub_c (Or.inr rfl) sub_n) h)
theorem dX10_told_0 : decode cX10_told 0 = .ok (.iload_n 1, 1) := by decide +kernel
theorem dX10_told_1 : decode cX10_told 1 = .ok (.tableswitch 235 0 15 #[79, 87, 95, 103, 111, 119, 134, 142, 164, 172, 180, 188, 196, 204, 219, 227], 79) := by decide +kernel
theorem dX10_told_80 : decode cX10_told 80 = .ok (.aload_n 0, 1) := by decide +kernel
theorem dX10_told_81 : decode cX10_told 81 = .ok (.getfield 12, 3) := by decide +kernel
theorem dX10_told_84 : decode cX10_told 84 = .ok (.getfield 126, 3) := by decide +kernel
theorem dX10_told_87 : decode cX10_told 87 = .ok (.ireturn, 1) := by decide +kernel
theorem dX10_told_88 : decode cX10_told 88 = .ok (.aload_n 0, 1) := by decide +kernel
theorem dX10_told_89 : decode cX10_told 89 = .ok (.getfield 12, 3) := by decide +kernel
theorem dX10_told_92 : decode cX10_told 92 = .ok (.getfield 129, 3) := by decide +kernel
theorem dX10_told_95 : decode cX10_told 95 = .ok (.ireturn, 1) := by decide +kernel
theorem dX10_told_96 : decode cX10_told 96 = .ok (.aload_n 0, 1) := by decide +kernel
theorem dX10_told_97 : decode cX10_told 97 = .ok (.getfield 12, 3) := by decide +kernel
theorem dX10_told_100 : decode cX10_told 100 = .ok (.getfield 123, 3) := by decide +kernel
theorem dX10_told_103 : decode cX10_told 103 = .ok (.ireturn, 1) := by decide +kernel
theorem dX10_told_104 : decode cX10_told 104 = .ok (.aload_n 0, 1) := by decide +kernel
theorem dX10_told_105 : decode cX10_told 105 = .ok (.getfield 22, 3) := by decide +kernel
theorem dX10_told_108 : decode cX10_told 108 = .ok (.getfield 93, 3) := by decide +kernel
theorem dX10_told_111 : decode cX10_told 111 = .ok (.ireturn, 1) := by decide +kernel
theorem dX10_told_112 : decode cX10_told 112 = .ok (.aload_n 0, 1) := by decide +kernel
theorem dX10_told_113 : decode cX10_told 113 = .ok (.getfield 29, 3) := by decide +kernel
theorem dX10_told_116 : decode cX10_told 116 = .ok (.getfield 132, 3) := by decide +kernel
theorem dX10_told_119 : decode cX10_told 119 = .ok (.ireturn, 1) := by decide +kernel
theorem dX10_told_120 : decode cX10_told 120 = .ok (.aload_n 0, 1) := by decide +kernel
theorem dX10_told_121 : decode cX10_told 121 = .ok (.getfield 12, 3) := by decide +kernel
theorem dX10_told_124 : decode cX10_told 124 = .ok (.aload_n 0, 1) := by decide +kernel
theorem dX10_told_125 : decode cX10_told 125 = .ok (.getfield 29, 3) := by decide +kernel
theorem dX10_told_128 : decode cX10_told 128 = .ok (.getfield 132, 3) := by decide +kernel
theorem dX10_told_131 : decode cX10_told 131 = .ok (.invokevirtual 135, 3) := by decide +kernel
theorem dX10_told_134 : decode cX10_told 134 = .ok (.ireturn, 1) := by decide +kernel
theorem dX10_told_135 : decode cX10_told 135 = .ok (.aload_n 0, 1) := by decide +kernel
theorem dX10_told_136 : decode cX10_told 136 = .ok (.getfield 29, 3) := by decide +kernel
theorem dX10_told_139 : decode cX10_told 139 = .ok (.getfield 138, 3) := by decide +kernel
theorem dX10_told_142 : decode cX10_told 142 = .ok (.ireturn, 1) := by decide +kernel
theorem dX10_told_143 : decode cX10_told 143 = .ok (.aload_n 0, 1) := by decide +kernel
theorem dX10_told_144 : decode cX10_told 144 = .ok (.getfield 12, 3) := by decide +kernel
theorem dX10_told_147 : decode cX10_told 147 = .ok (.aload_n 0, 1) := by decide +kernel
theorem dX10_told_148 : decode cX10_told 148 = .ok (.getfield 29, 3) := by decide +kernel
theorem dX10_told_151 : decode cX10_told 151 = .ok (.getfield 138, 3) := by decide +kernel
theorem dX10_told_154 : decode cX10_told 154 = .ok (.aload_n 0, 1) := by decide +kernel
theorem dX10_told_155 : decode cX10_told 155 = .ok (.getfield 12, 3) := by decide +kernel
theorem dX10_told_158 : decode cX10_told 158 = .ok (.getfield 129, 3) := by decide +kernel
theorem dX10_told_161 : decode cX10_told 161 = .ok (.invokevirtual 141, 3) := by decide +kernel
theorem dX10_told_164 : decode cX10_told 164 = .ok (.ireturn, 1) := by decide +kernel
theorem dX10_told_165 : decode cX10_told 165 = .ok (.aload_n 0, 1) := by decide +kernel
theorem dX10_told_166 : decode cX10_told 166 = .ok (.getfield 29, 3) := by decide +kernel
theorem dX10_told_169 : decode cX10_told 169 = .ok (.invokevirtual 145, 3) := by decide +kernel
theorem dX10_told_172 : decode cX10_told 172 = .ok (.ireturn, 1) := by decide +kernel
theorem dX10_told_173 : decode cX10_told 173 = .ok (.aload_n 0, 1) := by decide +kernel
theorem dX10_told_174 : decode cX10_told 174 = .ok (.getfield 29, 3) := by decide +kernel
theorem dX10_told_177 : decode cX10_told 177 = .ok (.invokevirtual 148, 3) := by decide +kernel
theorem dX10_told_180 : decode cX10_told 180 = .ok (.ireturn, 1) := by decide +kernel
theorem dX10_told_181 : decode cX10_told 181 = .ok (.aload_n 0, 1) := by decide +kernel
theorem dX10_told_182 : decode cX10_told 182 = .ok (.getfield 29, 3) := by decide +kernel
theorem dX10_told_185 : decode cX10_told 185 = .ok (.invokevirtual 151, 3) := by decide +kernel
theorem dX10_told_188 : decode cX10_told 188 = .ok (.ireturn, 1) := by decide +kernel
theorem dX10_told_189 : decode cX10_told 189 = .ok (.aload_n 0, 1) := by decide +kernel
theorem dX10_told_190 : decode cX10_told 190 = .ok (.getfield 67, 3) := by decide +kernel
theorem dX10_told_193 : decode cX10_told 193 = .ok (.getfield 154, 3) := by decide +kernel
theorem dX10_told_196 : decode cX10_told 196 = .ok (.ireturn, 1) := by decide +kernel
theorem dX10_told_197 : decode cX10_told 197 = .ok (.aload_n 0, 1) := by decide +kernel
theorem dX10_told_198 : decode cX10_told 198 = .ok (.getfield 74, 3) := by decide +kernel
theorem dX10_told_201 : decode cX10_told 201 = .ok (.getfield 157, 3) := by decide +kernel
theorem dX10_told_204 : decode cX10_told 204 = .ok (.ireturn, 1) := by decide +kernel
theorem dX10_told_205 : decode cX10_told 205 = .ok (.aload_n 0, 1) := by decide +kernel
theorem dX10_told_206 : decode cX10_told 206 = .ok (.getfield 74, 3) := by decide +kernel
theorem dX10_told_209 : decode cX10_told 209 = .ok (.aload_n 0, 1) := by decide +kernel
theorem dX10_told_210 : decode cX10_told 210 = .ok (.getfield 12, 3) := by decide +kernel
theorem dX10_told_213 : decode cX10_told 213 = .ok (.getfield 123, 3) := by decide +kernel
theorem dX10_told_216 : decode cX10_told 216 = .ok (.invokevirtual 158, 3) := by decide +kernel
theorem dX10_told_219 : decode cX10_told 219 = .ok (.ireturn, 1) := by decide +kernel
theorem dX10_told_220 : decode cX10_told 220 = .ok (.aload_n 0, 1) := by decide +kernel
theorem dX10_told_221 : decode cX10_told 221 = .ok (.getfield 81, 3) := by decide +kernel
theorem dX10_told_224 : decode cX10_told 224 = .ok (.getfield 161, 3) := by decide +kernel
theorem dX10_told_227 : decode cX10_told 227 = .ok (.ireturn, 1) := by decide +kernel
theorem dX10_told_228 : decode cX10_told 228 = .ok (.aload_n 0, 1) := by decide +kernel
theorem dX10_told_229 : decode cX10_told 229 = .ok (.getfield 39, 3) := by decide +kernel
theorem dX10_told_232 : decode cX10_told 232 = .ok (.getfield 162, 3) := by decide +kernel
theorem dX10_told_235 : decode cX10_told 235 = .ok (.ireturn, 1) := by decide +kernel
theorem dX10_told_236 : decode cX10_told 236 = .ok (.ldc 92, 2) := by decide +kernel
theorem dX10_told_238 : decode cX10_told 238 = .ok (.ireturn, 1) := by decide +kernel
theorem bX10_told_0 {κ : gK} {M : MM} {Q : Int32 → MM → Prop} (l1 : Int32)
    (h : ((l1 = (0 : Int32) → Q (M 1 4) M) ∧ (l1 = (1 : Int32) → Q (M 1 5) M) ∧ (l1 = (2 : Int32) → Q (M 1 6) M) ∧ (l1 = (3 : Int32) → Q (M 11 1) M) ∧ (l1 = (4 : Int32) → Q (M 13 3) M) ∧ (l1 = (5 : Int32) → Cl κ mX9_lightOf [.ref 1, .int (M 13 3)] M (fun r1 M1 => Q r1 M1)) ∧ (l1 = (6 : Int32) → Q (M 13 4) M) ∧ (l1 = (7 : Int32) → Cl κ mX9_goneOn [.ref 1, .int (M 13 4), .int (M 1 5)] M (fun r2 M2 => Q r2 M2)) ∧ (l1 = (8 : Int32) → Cl κ mX8_onSeveral [.ref 13] M (fun r3 M3 => Q r3 M3)) ∧ (l1 = (9 : Int32) → Cl κ mX8_cover [.ref 13] M (fun r4 M4 => Q r4 M4)) ∧ (l1 = (10 : Int32) → Cl κ mX8_fullest [.ref 13] M (fun r5 M5 => Q r5 M5)) ∧ (l1 = (11 : Int32) → Q (M 105 3) M) ∧ (l1 = (12 : Int32) → Q (M 109 5) M) ∧ (l1 = (13 : Int32) → Cl κ mX3_explained [.ref 109, .int (M 1 6)] M (fun r6 M6 => Q r6 M6)) ∧ (l1 = (14 : Int32) → Q (M 115 3) M) ∧ (l1 = (15 : Int32) → Q (M 21 2) M) ∧ ((∀ k : Nat, k ≤ 15 → l1 ≠ nI k) → Q (-1000000002 : Int32) M))) :
    G κ mX10_told 0 [.ref 0, .int l1] [] M Q := by
  refine g_iload_n (i := 1) dX10_told_0 rfl rfl ?_
  refine g_tab (hi := 15) (dt := 236) (fun k => ([80, 88, 96, 104, 112, 120, 135, 143, 165, 173, 181, 189, 197, 205, 220, 228] : List Nat).getD k 0) dX10_told_1 (by decide) (by decide) rfl (fun k hk hx => ?_) (fun hx => ?_)
  · rcases (show k = 0 ∨ k = 1 ∨ k = 2 ∨ k = 3 ∨ k = 4 ∨ k = 5 ∨ k = 6 ∨ k = 7 ∨ k = 8 ∨ k = 9 ∨ k = 10 ∨ k = 11 ∨ k = 12 ∨ k = 13 ∨ k = 14 ∨ k = 15 by omega) with rfl | rfl | rfl | rfl | rfl | rfl | rfl | rfl | rfl | rfl | rfl | rfl | rfl | rfl | rfl | rfl
    · replace h := h.1 hx
      show G κ mX10_told 80 _ _ _ _
      refine g_aload_n (i := 0) dX10_told_80 rfl rfl ?_
      refine gf_RX10_12 rfl dX10_told_81 sh_0 ?_
      refine gf_RX10_126 rfl dX10_told_84 sh_1 ?_
      exact g_iret dX10_told_87 rfl h
    · replace h := h.2.1 hx
      show G κ mX10_told 88 _ _ _ _
      refine g_aload_n (i := 0) dX10_told_88 rfl rfl ?_
      refine gf_RX10_12 rfl dX10_told_89 sh_0 ?_
      refine gf_RX10_129 rfl dX10_told_92 sh_1 ?_
      exact g_iret dX10_told_95 rfl h
    · replace h := h.2.2.1 hx
      show G κ mX10_told 96 _ _ _ _
      refine g_aload_n (i := 0) dX10_told_96 rfl rfl ?_
      refine gf_RX10_12 rfl dX10_told_97 sh_0 ?_
      refine gf_RX10_123 rfl dX10_told_100 sh_1 ?_
      exact g_iret dX10_told_103 rfl h
    · replace h := h.2.2.2.1 hx
      show G κ mX10_told 104 _ _ _ _
      refine g_aload_n (i := 0) dX10_told_104 rfl rfl ?_
      refine gf_RX10_22 rfl dX10_told_105 sh_0 ?_
      refine gf_RX10_93 rfl dX10_told_108 sh_11 ?_
      exact g_iret dX10_told_111 rfl h
    · replace h := h.2.2.2.2.1 hx
      show G κ mX10_told 112 _ _ _ _
      refine g_aload_n (i := 0) dX10_told_112 rfl rfl ?_
      refine gf_RX10_29 rfl dX10_told_113 sh_0 ?_
      refine gf_RX10_132 rfl dX10_told_116 sh_13 ?_
      exact g_iret dX10_told_119 rfl h
    · replace h := h.2.2.2.2.2.1 hx
      show G κ mX10_told 120 _ _ _ _
      refine g_aload_n (i := 0) dX10_told_120 rfl rfl ?_
      refine gf_RX10_12 rfl dX10_told_121 sh_0 ?_
      refine g_aload_n (i := 0) dX10_told_124 rfl rfl ?_
      refine gf_RX10_29 rfl dX10_told_125 sh_0 ?_
      refine gf_RX10_132 rfl dX10_told_128 sh_13 ?_
      refine gc_RX10_135 rfl (Nat.le_of_ble_eq_true rfl) dX10_told_131 sh_1 (Nat.le_of_ble_eq_true rfl) ?_
      refine Cl.mono h (fun r1 M1 h => ?_)
      exact g_iret dX10_told_134 rfl h
    · replace h := h.2.2.2.2.2.2.1 hx
      show G κ mX10_told 135 _ _ _ _
      refine g_aload_n (i := 0) dX10_told_135 rfl rfl ?_
      refine gf_RX10_29 rfl dX10_told_136 sh_0 ?_
      refine gf_RX10_138 rfl dX10_told_139 sh_13 ?_
      exact g_iret dX10_told_142 rfl h
    · replace h := h.2.2.2.2.2.2.2.1 hx
      show G κ mX10_told 143 _ _ _ _
      refine g_aload_n (i := 0) dX10_told_143 rfl rfl ?_
      refine gf_RX10_12 rfl dX10_told_144 sh_0 ?_
      refine g_aload_n (i := 0) dX10_told_147 rfl rfl ?_
      refine gf_RX10_29 rfl dX10_told_148 sh_0 ?_
      refine gf_RX10_138 rfl dX10_told_151 sh_13 ?_
      refine g_aload_n (i := 0) dX10_told_154 rfl rfl ?_
      refine gf_RX10_12 rfl dX10_told_155 sh_0 ?_
      refine gf_RX10_129 rfl dX10_told_158 sh_1 ?_
      refine gc_RX10_141 rfl (Nat.le_of_ble_eq_true rfl) dX10_told_161 sh_1 (Nat.le_of_ble_eq_true rfl) ?_
      refine Cl.mono h (fun r2 M2 h => ?_)
      exact g_iret dX10_told_164 rfl h
    · replace h := h.2.2.2.2.2.2.2.2.1 hx
      show G κ mX10_told 165 _ _ _ _
      refine g_aload_n (i := 0) dX10_told_165 rfl rfl ?_
      refine gf_RX10_29 rfl dX10_told_166 sh_0 ?_
      refine gc_RX10_145 rfl (Nat.le_of_ble_eq_true rfl) dX10_told_169 sh_13 (Nat.le_of_ble_eq_true rfl) ?_
      refine Cl.mono h (fun r3 M3 h => ?_)
      exact g_iret dX10_told_172 rfl h
    · replace h := h.2.2.2.2.2.2.2.2.2.1 hx
      show G κ mX10_told 173 _ _ _ _
      refine g_aload_n (i := 0) dX10_told_173 rfl rfl ?_
      refine gf_RX10_29 rfl dX10_told_174 sh_0 ?_
      refine gc_RX10_148 rfl (Nat.le_of_ble_eq_true rfl) dX10_told_177 sh_13 (Nat.le_of_ble_eq_true rfl) ?_
      refine Cl.mono h (fun r4 M4 h => ?_)
      exact g_iret dX10_told_180 rfl h
    · replace h := h.2.2.2.2.2.2.2.2.2.2.1 hx
      show G κ mX10_told 181 _ _ _ _
      refine g_aload_n (i := 0) dX10_told_181 rfl rfl ?_
      refine gf_RX10_29 rfl dX10_told_182 sh_0 ?_
      refine gc_RX10_151 rfl (Nat.le_of_ble_eq_true rfl) dX10_told_185 sh_13 (Nat.le_of_ble_eq_true rfl) ?_
      refine Cl.mono h (fun r5 M5 h => ?_)
      exact g_iret dX10_told_188 rfl h
    · replace h := h.2.2.2.2.2.2.2.2.2.2.2.1 hx
      show G κ mX10_told 189 _ _ _ _
      refine g_aload_n (i := 0) dX10_told_189 rfl rfl ?_
      refine gf_RX10_67 rfl dX10_told_190 sh_0 ?_
      refine gf_RX10_154 rfl dX10_told_193 sh_105 ?_
      exact g_iret dX10_told_196 rfl h
    · replace h := h.2.2.2.2.2.2.2.2.2.2.2.2.1 hx
      show G κ mX10_told 197 _ _ _ _
      refine g_aload_n (i := 0) dX10_told_197 rfl rfl ?_
      refine gf_RX10_74 rfl dX10_told_198 sh_0 ?_
      refine gf_RX10_157 rfl dX10_told_201 sh_109 ?_
      exact g_iret dX10_told_204 rfl h
    · replace h := h.2.2.2.2.2.2.2.2.2.2.2.2.2.1 hx
      show G κ mX10_told 205 _ _ _ _
      refine g_aload_n (i := 0) dX10_told_205 rfl rfl ?_
      refine gf_RX10_74 rfl dX10_told_206 sh_0 ?_
      refine g_aload_n (i := 0) dX10_told_209 rfl rfl ?_
      refine gf_RX10_12 rfl dX10_told_210 sh_0 ?_
      refine gf_RX10_123 rfl dX10_told_213 sh_1 ?_
      refine gc_RX10_158 rfl (Nat.le_of_ble_eq_true rfl) dX10_told_216 sh_109 (Nat.le_of_ble_eq_true rfl) ?_
      refine Cl.mono h (fun r6 M6 h => ?_)
      exact g_iret dX10_told_219 rfl h
    · replace h := h.2.2.2.2.2.2.2.2.2.2.2.2.2.2.1 hx
      show G κ mX10_told 220 _ _ _ _
      refine g_aload_n (i := 0) dX10_told_220 rfl rfl ?_
      refine gf_RX10_81 rfl dX10_told_221 sh_0 ?_
      refine gf_RX10_161 rfl dX10_told_224 sh_115 ?_
      exact g_iret dX10_told_227 rfl h
    · replace h := h.2.2.2.2.2.2.2.2.2.2.2.2.2.2.2.1 hx
      show G κ mX10_told 228 _ _ _ _
      refine g_aload_n (i := 0) dX10_told_228 rfl rfl ?_
      refine gf_RX10_39 rfl dX10_told_229 sh_0 ?_
      refine gf_RX10_162 rfl dX10_told_232 sh_21 ?_
      exact g_iret dX10_told_235 rfl h
  · replace h := h.2.2.2.2.2.2.2.2.2.2.2.2.2.2.2.2 hx
    refine g_ldc dX10_told_236 wt_309 ?_
    exact g_iret dX10_told_238 rfl h
theorem eX10_told {κ : gK} {M : MM} {Q : Int32 → MM → Prop} (l1 : Int32)
    (h : G κ mX10_told 0 [.ref 0, .int l1] [] M Q) : Cl κ mX10_told [.ref 0, .int l1] M Q := g_entry 0 pl_X10_told (Nat.le_of_ble_eq_true rfl) (L := [.ref 0, .int l1]) rfl (g_sub _ (sub_c (Or.inr rfl) (sub_c (Or.inr rfl) sub_n)) h)
theorem dX10_person_0 : decode cX10_person 0 = .ok (.aload_n 0, 1) := by decide +kernel
theorem dX10_person_1 : decode cX10_person 1 = .ok (.getfield 12, 3) := by decide +kernel
theorem dX10_person_4 : decode cX10_person 4 = .ok (.iload_n 1, 1) := by decide +kernel
theorem dX10_person_5 : decode cX10_person 5 = .ok (.invokevirtual 163, 3) := by decide +kernel
theorem dX10_person_8 : decode cX10_person 8 = .ok (.ifCond .ne 6, 3) := by decide +kernel
theorem dX10_person_11 : decode cX10_person 11 = .ok (.ldc 167, 2) := by decide +kernel
theorem dX10_person_13 : decode cX10_person 13 = .ok (.ireturn, 1) := by decide +kernel
theorem dX10_person_14 : decode cX10_person 14 = .ok (.iload_n 2, 1) := by decide +kernel
theorem dX10_person_15 : decode cX10_person 15 = .ok (.tableswitch 96 0 4 #[33, 43, 53, 63, 73], 33) := by decide +kernel
theorem dX10_person_48 : decode cX10_person 48 = .ok (.aload_n 0, 1) := by decide +kernel
theorem dX10_person_49 : decode cX10_person 49 = .ok (.getfield 12, 3) := by decide +kernel
theorem dX10_person_52 : decode cX10_person 52 = .ok (.getfield 168, 3) := by decide +kernel
theorem dX10_person_55 : decode cX10_person 55 = .ok (.iload_n 1, 1) := by decide +kernel
theorem dX10_person_56 : decode cX10_person 56 = .ok (.iaload, 1) := by decide +kernel
theorem dX10_person_57 : decode cX10_person 57 = .ok (.ireturn, 1) := by decide +kernel
theorem dX10_person_58 : decode cX10_person 58 = .ok (.aload_n 0, 1) := by decide +kernel
theorem dX10_person_59 : decode cX10_person 59 = .ok (.getfield 29, 3) := by decide +kernel
theorem dX10_person_62 : decode cX10_person 62 = .ok (.getfield 172, 3) := by decide +kernel
theorem dX10_person_65 : decode cX10_person 65 = .ok (.iload_n 1, 1) := by decide +kernel
theorem dX10_person_66 : decode cX10_person 66 = .ok (.iaload, 1) := by decide +kernel
theorem dX10_person_67 : decode cX10_person 67 = .ok (.ireturn, 1) := by decide +kernel
theorem dX10_person_68 : decode cX10_person 68 = .ok (.aload_n 0, 1) := by decide +kernel
theorem dX10_person_69 : decode cX10_person 69 = .ok (.getfield 29, 3) := by decide +kernel
theorem dX10_person_72 : decode cX10_person 72 = .ok (.getfield 175, 3) := by decide +kernel
theorem dX10_person_75 : decode cX10_person 75 = .ok (.iload_n 1, 1) := by decide +kernel
theorem dX10_person_76 : decode cX10_person 76 = .ok (.iaload, 1) := by decide +kernel
theorem dX10_person_77 : decode cX10_person 77 = .ok (.ireturn, 1) := by decide +kernel
theorem dX10_person_78 : decode cX10_person 78 = .ok (.aload_n 0, 1) := by decide +kernel
theorem dX10_person_79 : decode cX10_person 79 = .ok (.getfield 29, 3) := by decide +kernel
theorem dX10_person_82 : decode cX10_person 82 = .ok (.getfield 178, 3) := by decide +kernel
theorem dX10_person_85 : decode cX10_person 85 = .ok (.iload_n 1, 1) := by decide +kernel
theorem dX10_person_86 : decode cX10_person 86 = .ok (.iaload, 1) := by decide +kernel
theorem dX10_person_87 : decode cX10_person 87 = .ok (.ireturn, 1) := by decide +kernel
theorem dX10_person_88 : decode cX10_person 88 = .ok (.aload_n 0, 1) := by decide +kernel
theorem dX10_person_89 : decode cX10_person 89 = .ok (.getfield 29, 3) := by decide +kernel
theorem dX10_person_92 : decode cX10_person 92 = .ok (.aload_n 0, 1) := by decide +kernel
theorem dX10_person_93 : decode cX10_person 93 = .ok (.getfield 29, 3) := by decide +kernel
theorem dX10_person_96 : decode cX10_person 96 = .ok (.getfield 172, 3) := by decide +kernel
theorem dX10_person_99 : decode cX10_person 99 = .ok (.iload_n 1, 1) := by decide +kernel
theorem dX10_person_100 : decode cX10_person 100 = .ok (.iaload, 1) := by decide +kernel
theorem dX10_person_101 : decode cX10_person 101 = .ok (.invokevirtual 181, 3) := by decide +kernel
theorem dX10_person_104 : decode cX10_person 104 = .ok (.iconst 1, 1) := by decide +kernel
theorem dX10_person_105 : decode cX10_person 105 = .ok (.iload_n 1, 1) := by decide +kernel
theorem dX10_person_106 : decode cX10_person 106 = .ok (.ishl, 1) := by decide +kernel
theorem dX10_person_107 : decode cX10_person 107 = .ok (.iconst (-1), 1) := by decide +kernel
theorem dX10_person_108 : decode cX10_person 108 = .ok (.ixor, 1) := by decide +kernel
theorem dX10_person_109 : decode cX10_person 109 = .ok (.iand, 1) := by decide +kernel
theorem dX10_person_110 : decode cX10_person 110 = .ok (.ireturn, 1) := by decide +kernel
theorem dX10_person_111 : decode cX10_person 111 = .ok (.ldc 92, 2) := by decide +kernel
theorem dX10_person_113 : decode cX10_person 113 = .ok (.ireturn, 1) := by decide +kernel
theorem bX10_person_0 {κ : gK} {M : MM} {Q : Int32 → MM → Prop} (l1 : Int32) (l2 : Int32)
    (h : Cl κ mX9_hasPerson [.ref 1, .int l1] M (fun r1 M1 => ((r1 = 0 → Q (-1000000001 : Int32) M1) ∧ (¬ r1 = 0 → ((l2 = (0 : Int32) → (vp_in l1 8) ∧ (Q (M1 2 (l1).toNatClampNeg) M1)) ∧ (l2 = (1 : Int32) → (vp_in l1 8) ∧ (Q (M1 14 (l1).toNatClampNeg) M1)) ∧ (l2 = (2 : Int32) → (vp_in l1 8) ∧ (Q (M1 15 (l1).toNatClampNeg) M1)) ∧ (l2 = (3 : Int32) → (vp_in l1 8) ∧ (Q (M1 16 (l1).toNatClampNeg) M1)) ∧ (l2 = (4 : Int32) → (vp_in l1 8) ∧ (Cl κ mX8_whoIsOn [.ref 13, .int (M1 14 (l1).toNatClampNeg)] M1 (fun r2 M2 => Q (r2 &&& ((jshl (1 : Int32) l1) ^^^ (-1 : Int32))) M2))) ∧ ((∀ k : Nat, k ≤ 4 → l2 ≠ nI k) → Q (-1000000002 : Int32) M1)))))) :
    G κ mX10_person 0 [.ref 0, .int l1, .int l2] [] M Q := by
  refine g_aload_n (i := 0) dX10_person_0 rfl rfl ?_
  refine gf_RX10_12 rfl dX10_person_1 sh_0 ?_
  refine g_iload_n (i := 1) dX10_person_4 rfl rfl ?_
  refine gc_RX10_163 rfl (Nat.le_of_ble_eq_true rfl) dX10_person_5 sh_1 (Nat.le_of_ble_eq_true rfl) ?_
  refine Cl.mono h (fun r1 M1 h => ?_)
  refine g_if_ne (tgt := 14) dX10_person_8 rfl ⟨fun hc => ?_, fun hc => ?_⟩
  · replace h := h.1 hc
    refine g_ldc dX10_person_11 wt_468 ?_
    exact g_iret dX10_person_13 rfl h
  · replace h := h.2 hc
    refine g_iload_n (i := 2) dX10_person_14 rfl rfl ?_
    refine g_tab (hi := 4) (dt := 111) (fun k => ([48, 58, 68, 78, 88] : List Nat).getD k 0) dX10_person_15 (by decide) (by decide) rfl (fun k hk hx => ?_) (fun hx => ?_)
    · rcases (show k = 0 ∨ k = 1 ∨ k = 2 ∨ k = 3 ∨ k = 4 by omega) with rfl | rfl | rfl | rfl | rfl
      · replace h := h.1 hx
        show G κ mX10_person 48 _ _ _ _
        refine g_aload_n (i := 0) dX10_person_48 rfl rfl ?_
        refine gf_RX10_12 rfl dX10_person_49 sh_0 ?_
        refine gf_RX10_168 rfl dX10_person_52 sh_1 ?_
        refine g_iload_n (i := 1) dX10_person_55 rfl rfl ?_
        have hv1 := h.1; replace h := h.2
        refine g_iald dX10_person_56 sh_2 hv1 ?_
        exact g_iret dX10_person_57 rfl h
      · replace h := h.2.1 hx
        show G κ mX10_person 58 _ _ _ _
        refine g_aload_n (i := 0) dX10_person_58 rfl rfl ?_
        refine gf_RX10_29 rfl dX10_person_59 sh_0 ?_
        refine gf_RX10_172 rfl dX10_person_62 sh_13 ?_
        refine g_iload_n (i := 1) dX10_person_65 rfl rfl ?_
        have hv2 := h.1; replace h := h.2
        refine g_iald dX10_person_66 sh_14 hv2 ?_
        exact g_iret dX10_person_67 rfl h
      · replace h := h.2.2.1 hx
        show G κ mX10_person 68 _ _ _ _
        refine g_aload_n (i := 0) dX10_person_68 rfl rfl ?_
        refine gf_RX10_29 rfl dX10_person_69 sh_0 ?_
        refine gf_RX10_175 rfl dX10_person_72 sh_13 ?_
        refine g_iload_n (i := 1) dX10_person_75 rfl rfl ?_
        have hv3 := h.1; replace h := h.2
        refine g_iald dX10_person_76 sh_15 hv3 ?_
        exact g_iret dX10_person_77 rfl h
      · replace h := h.2.2.2.1 hx
        show G κ mX10_person 78 _ _ _ _
        refine g_aload_n (i := 0) dX10_person_78 rfl rfl ?_
        refine gf_RX10_29 rfl dX10_person_79 sh_0 ?_
        refine gf_RX10_178 rfl dX10_person_82 sh_13 ?_
        refine g_iload_n (i := 1) dX10_person_85 rfl rfl ?_
        have hv4 := h.1; replace h := h.2
        refine g_iald dX10_person_86 sh_16 hv4 ?_
        exact g_iret dX10_person_87 rfl h
      · replace h := h.2.2.2.2.1 hx
        show G κ mX10_person 88 _ _ _ _
        refine g_aload_n (i := 0) dX10_person_88 rfl rfl ?_
        refine gf_RX10_29 rfl dX10_person_89 sh_0 ?_
        refine g_aload_n (i := 0) dX10_person_92 rfl rfl ?_
        refine gf_RX10_29 rfl dX10_person_93 sh_0 ?_
        refine gf_RX10_172 rfl dX10_person_96 sh_13 ?_
        refine g_iload_n (i := 1) dX10_person_99 rfl rfl ?_
        have hv5 := h.1; replace h := h.2
        refine g_iald dX10_person_100 sh_14 hv5 ?_
        refine gc_RX10_181 rfl (Nat.le_of_ble_eq_true rfl) dX10_person_101 sh_13 (Nat.le_of_ble_eq_true rfl) ?_
        refine Cl.mono h (fun r2 M2 h => ?_)
        refine g_iconst (v := (1 : Int32)) dX10_person_104 (by decide) ?_
        refine g_iload_n (i := 1) dX10_person_105 rfl rfl ?_
        refine g_ishl dX10_person_106 ?_
        refine g_iconst (v := (-1 : Int32)) dX10_person_107 (by decide) ?_
        refine g_ixor dX10_person_108 ?_
        refine g_iand dX10_person_109 ?_
        exact g_iret dX10_person_110 rfl h
    · replace h := h.2.2.2.2.2 hx
      refine g_ldc dX10_person_111 wt_309 ?_
      exact g_iret dX10_person_113 rfl h
theorem eX10_person {κ : gK} {M : MM} {Q : Int32 → MM → Prop} (l1 : Int32) (l2 : Int32)
    (h : G κ mX10_person 0 [.ref 0, .int l1, .int l2] [] M Q) : Cl κ mX10_person [.ref 0, .int l1, .int l2] M Q := g_entry 0 pl_X10_person (Nat.le_of_ble_eq_true rfl) (L := [.ref 0, .int l1, .int l2]) rfl (g_sub _ (sub_c (Or.inr rfl) (sub_c (Or.inr rfl) (sub_c (Or.inr rfl) sub_n))) h)
theorem dX10_onLayer_0 : decode cX10_onLayer 0 = .ok (.aload_n 0, 1) := by decide +kernel
theorem dX10_onLayer_1 : decode cX10_onLayer 1 = .ok (.getfield 12, 3) := by decide +kernel
theorem dX10_onLayer_4 : decode cX10_onLayer 4 = .ok (.iload_n 1, 1) := by decide +kernel
theorem dX10_onLayer_5 : decode cX10_onLayer 5 = .ok (.invokevirtual 184, 3) := by decide +kernel
theorem dX10_onLayer_8 : decode cX10_onLayer 8 = .ok (.ifCond .ne 6, 3) := by decide +kernel
theorem dX10_onLayer_11 : decode cX10_onLayer 11 = .ok (.ldc 167, 2) := by decide +kernel
theorem dX10_onLayer_13 : decode cX10_onLayer 13 = .ok (.ireturn, 1) := by decide +kernel
theorem dX10_onLayer_14 : decode cX10_onLayer 14 = .ok (.aload_n 0, 1) := by decide +kernel
theorem dX10_onLayer_15 : decode cX10_onLayer 15 = .ok (.getfield 29, 3) := by decide +kernel
theorem dX10_onLayer_18 : decode cX10_onLayer 18 = .ok (.iconst 1, 1) := by decide +kernel
theorem dX10_onLayer_19 : decode cX10_onLayer 19 = .ok (.iload_n 1, 1) := by decide +kernel
theorem dX10_onLayer_20 : decode cX10_onLayer 20 = .ok (.ishl, 1) := by decide +kernel
theorem dX10_onLayer_21 : decode cX10_onLayer 21 = .ok (.invokevirtual 181, 3) := by decide +kernel
theorem dX10_onLayer_24 : decode cX10_onLayer 24 = .ok (.ireturn, 1) := by decide +kernel
theorem bX10_onLayer_0 {κ : gK} {M : MM} {Q : Int32 → MM → Prop} (l1 : Int32)
    (h : Cl κ mX9_hasLayer [.ref 1, .int l1] M (fun r1 M1 => ((r1 = 0 → Q (-1000000001 : Int32) M1) ∧ (¬ r1 = 0 → Cl κ mX8_whoIsOn [.ref 13, .int (jshl (1 : Int32) l1)] M1 (fun r2 M2 => Q r2 M2))))) :
    G κ mX10_onLayer 0 [.ref 0, .int l1] [] M Q := by
  refine g_aload_n (i := 0) dX10_onLayer_0 rfl rfl ?_
  refine gf_RX10_12 rfl dX10_onLayer_1 sh_0 ?_
  refine g_iload_n (i := 1) dX10_onLayer_4 rfl rfl ?_
  refine gc_RX10_184 rfl (Nat.le_of_ble_eq_true rfl) dX10_onLayer_5 sh_1 (Nat.le_of_ble_eq_true rfl) ?_
  refine Cl.mono h (fun r1 M1 h => ?_)
  refine g_if_ne (tgt := 14) dX10_onLayer_8 rfl ⟨fun hc => ?_, fun hc => ?_⟩
  · replace h := h.1 hc
    refine g_ldc dX10_onLayer_11 wt_468 ?_
    exact g_iret dX10_onLayer_13 rfl h
  · replace h := h.2 hc
    refine g_aload_n (i := 0) dX10_onLayer_14 rfl rfl ?_
    refine gf_RX10_29 rfl dX10_onLayer_15 sh_0 ?_
    refine g_iconst (v := (1 : Int32)) dX10_onLayer_18 (by decide) ?_
    refine g_iload_n (i := 1) dX10_onLayer_19 rfl rfl ?_
    refine g_ishl dX10_onLayer_20 ?_
    refine gc_RX10_181 rfl (Nat.le_of_ble_eq_true rfl) dX10_onLayer_21 sh_13 (Nat.le_of_ble_eq_true rfl) ?_
    refine Cl.mono h (fun r2 M2 h => ?_)
    exact g_iret dX10_onLayer_24 rfl h
theorem eX10_onLayer {κ : gK} {M : MM} {Q : Int32 → MM → Prop} (l1 : Int32)
    (h : G κ mX10_onLayer 0 [.ref 0, .int l1] [] M Q) : Cl κ mX10_onLayer [.ref 0, .int l1] M Q := g_entry 0 pl_X10_onLayer (Nat.le_of_ble_eq_true rfl) (L := [.ref 0, .int l1]) rfl (g_sub _ (sub_c (Or.inr rfl) (sub_c (Or.inr rfl) sub_n)) h)
theorem dX10_dawn_0 : decode cX10_dawn 0 = .ok (.aload_n 0, 1) := by decide +kernel
theorem dX10_dawn_1 : decode cX10_dawn 1 = .ok (.iload_n 1, 1) := by decide +kernel
theorem dX10_dawn_2 : decode cX10_dawn 2 = .ok (.invokevirtual 187, 3) := by decide +kernel
theorem dX10_dawn_5 : decode cX10_dawn 5 = .ok (.istore_n 2, 1) := by decide +kernel
theorem dX10_dawn_6 : decode cX10_dawn 6 = .ok (.iload_n 2, 1) := by decide +kernel
theorem dX10_dawn_7 : decode cX10_dawn 7 = .ok (.ifCond .eq 5, 3) := by decide +kernel
theorem dX10_dawn_10 : decode cX10_dawn 10 = .ok (.iload_n 2, 1) := by decide +kernel
theorem dX10_dawn_11 : decode cX10_dawn 11 = .ok (.ireturn, 1) := by decide +kernel
theorem dX10_dawn_12 : decode cX10_dawn 12 = .ok (.aload_n 0, 1) := by decide +kernel
theorem dX10_dawn_13 : decode cX10_dawn 13 = .ok (.getfield 39, 3) := by decide +kernel
theorem dX10_dawn_16 : decode cX10_dawn 16 = .ok (.aload_n 0, 1) := by decide +kernel
theorem dX10_dawn_17 : decode cX10_dawn 17 = .ok (.getfield 29, 3) := by decide +kernel
theorem dX10_dawn_20 : decode cX10_dawn 20 = .ok (.invokevirtual 190, 3) := by decide +kernel
theorem dX10_dawn_23 : decode cX10_dawn 23 = .ok (.iconst 0, 1) := by decide +kernel
theorem dX10_dawn_24 : decode cX10_dawn 24 = .ok (.istore_n 3, 1) := by decide +kernel
theorem dX10_dawn_25 : decode cX10_dawn 25 = .ok (.iload_n 3, 1) := by decide +kernel
theorem dX10_dawn_26 : decode cX10_dawn 26 = .ok (.iload_n 1, 1) := by decide +kernel
theorem dX10_dawn_27 : decode cX10_dawn 27 = .ok (.if_icmp .ge 20, 3) := by decide +kernel
theorem dX10_dawn_30 : decode cX10_dawn 30 = .ok (.aload_n 0, 1) := by decide +kernel
theorem dX10_dawn_31 : decode cX10_dawn 31 = .ok (.getfield 29, 3) := by decide +kernel
theorem dX10_dawn_34 : decode cX10_dawn 34 = .ok (.aload_n 0, 1) := by decide +kernel
theorem dX10_dawn_35 : decode cX10_dawn 35 = .ok (.getfield 12, 3) := by decide +kernel
theorem dX10_dawn_38 : decode cX10_dawn 38 = .ok (.invokevirtual 194, 3) := by decide +kernel
theorem dX10_dawn_41 : decode cX10_dawn 41 = .ok (.iinc 3 1, 3) := by decide +kernel
theorem dX10_dawn_44 : decode cX10_dawn 44 = .ok (.goto (-19), 3) := by decide +kernel
theorem dX10_dawn_47 : decode cX10_dawn 47 = .ok (.aload_n 0, 1) := by decide +kernel
theorem dX10_dawn_48 : decode cX10_dawn 48 = .ok (.getfield 29, 3) := by decide +kernel
theorem dX10_dawn_51 : decode cX10_dawn 51 = .ok (.getfield 132, 3) := by decide +kernel
theorem dX10_dawn_54 : decode cX10_dawn 54 = .ok (.ireturn, 1) := by decide +kernel
theorem bX10_dawn_0 {κ : gK} {M : MM} {Q : Int32 → MM → Prop} (l1 : Int32)
    (h : Cl κ mX10_refusalOfDawns [.ref 0, .int l1] M (fun r1 M1 => ((r1 = 0 → Cl κ mX4_remember [.ref 21, .ref 13] M1 (fun _ M2 => G κ mX10_dawn 25 [.ref 0, .int l1, .null, .int (0 : Int32)] [] M2 Q)) ∧ (¬ r1 = 0 → Q r1 M1)))) :
    G κ mX10_dawn 0 [.ref 0, .int l1, .null, .null] [] M Q := by
  refine g_aload_n (i := 0) dX10_dawn_0 rfl rfl ?_
  refine g_iload_n (i := 1) dX10_dawn_1 rfl rfl ?_
  refine gc_RX10_187 rfl (Nat.le_of_ble_eq_true rfl) dX10_dawn_2 sh_0 (Nat.le_of_ble_eq_true rfl) ?_
  refine Cl.mono h (fun r1 M1 h => ?_)
  refine g_istore_n (i := 2) (L' := [.ref 0, .int l1, .int r1, .null]) dX10_dawn_5 rfl (Nat.le_of_ble_eq_true rfl) rfl rfl ?_
  refine g_iload_n (i := 2) dX10_dawn_6 rfl rfl ?_
  refine g_if_eq (tgt := 12) dX10_dawn_7 rfl ⟨fun hc => ?_, fun hc => ?_⟩
  · replace h := h.1 hc
    refine g_aload_n (i := 0) dX10_dawn_12 rfl rfl ?_
    refine gf_RX10_39 rfl dX10_dawn_13 sh_0 ?_
    refine g_aload_n (i := 0) dX10_dawn_16 rfl rfl ?_
    refine gf_RX10_29 rfl dX10_dawn_17 sh_0 ?_
    refine gc_RX10_190 rfl (Nat.le_of_ble_eq_true rfl) dX10_dawn_20 sh_21 (Nat.le_of_ble_eq_true rfl) ?_
    refine Cl.mono h (fun r2 M2 h => ?_)
    refine g_iconst (v := (0 : Int32)) dX10_dawn_23 (by decide) ?_
    refine g_istore_n (i := 3) (L' := [.ref 0, .int l1, .int r1, .int (0 : Int32)]) dX10_dawn_24 rfl (Nat.le_of_ble_eq_true rfl) rfl rfl ?_
    exact g_sub _ (sub_c (Or.inr rfl) (sub_c (Or.inr rfl) (sub_c (Or.inl rfl) (sub_c (Or.inr rfl) sub_n)))) h
  · replace h := h.2 hc
    refine g_iload_n (i := 2) dX10_dawn_10 rfl rfl ?_
    exact g_iret dX10_dawn_11 rfl h
theorem bX10_dawn_25 {κ : gK} {M : MM} {Q : Int32 → MM → Prop} (l1 : Int32) (l3 : Int32)
    (h : ((l1 ≤ l3 → Q (M 13 3) M) ∧ (¬ l1 ≤ l3 → Cl κ mX8_passDawn [.ref 13, .ref 1] M (fun _ M1 => G κ mX10_dawn 25 [.ref 0, .int l1, .null, .int (l3 + 1)] [] M1 Q)))) :
    G κ mX10_dawn 25 [.ref 0, .int l1, .null, .int l3] [] M Q := by
  refine g_iload_n (i := 3) dX10_dawn_25 rfl rfl ?_
  refine g_iload_n (i := 1) dX10_dawn_26 rfl rfl ?_
  refine g_icmp_ge (tgt := 47) dX10_dawn_27 rfl ⟨fun hc => ?_, fun hc => ?_⟩
  · replace h := h.1 hc
    refine g_aload_n (i := 0) dX10_dawn_47 rfl rfl ?_
    refine gf_RX10_29 rfl dX10_dawn_48 sh_0 ?_
    refine gf_RX10_132 rfl dX10_dawn_51 sh_13 ?_
    exact g_iret dX10_dawn_54 rfl h
  · replace h := h.2 hc
    refine g_aload_n (i := 0) dX10_dawn_30 rfl rfl ?_
    refine gf_RX10_29 rfl dX10_dawn_31 sh_0 ?_
    refine g_aload_n (i := 0) dX10_dawn_34 rfl rfl ?_
    refine gf_RX10_12 rfl dX10_dawn_35 sh_0 ?_
    refine gc_RX10_194 rfl (Nat.le_of_ble_eq_true rfl) dX10_dawn_38 sh_13 (Nat.le_of_ble_eq_true rfl) ?_
    refine Cl.mono h (fun r1 M1 h => ?_)
    refine g_iinc (v := (l3 + 1)) (L' := [.ref 0, .int l1, .null, .int (l3 + 1)]) dX10_dawn_41 rfl rfl (Nat.le_of_ble_eq_true rfl) rfl rfl ?_
    refine g_goto (tgt := 25) dX10_dawn_44 rfl ?_
    exact h
theorem eX10_dawn {κ : gK} {M : MM} {Q : Int32 → MM → Prop} (l1 : Int32)
    (h : G κ mX10_dawn 0 [.ref 0, .int l1, .null, .null] [] M Q) : Cl κ mX10_dawn [.ref 0, .int l1] M Q := g_entry 2 pl_X10_dawn (Nat.le_of_ble_eq_true rfl) (L := [.ref 0, .int l1, .null, .null]) rfl (g_sub _ (sub_c (Or.inr rfl) (sub_c (Or.inr rfl) (sub_c (Or.inr rfl) (sub_c (Or.inr rfl) sub_n)))) h)
theorem dX10_crow_0 : decode cX10_crow 0 = .ok (.iload_n 1, 1) := by decide +kernel
theorem dX10_crow_1 : decode cX10_crow 1 = .ok (.iconst 1, 1) := by decide +kernel
theorem dX10_crow_2 : decode cX10_crow 2 = .ok (.if_icmp .lt 9, 3) := by decide +kernel
theorem dX10_crow_5 : decode cX10_crow 5 = .ok (.iload_n 1, 1) := by decide +kernel
theorem dX10_crow_6 : decode cX10_crow 6 = .ok (.bipush 9, 2) := by decide +kernel
theorem dX10_crow_8 : decode cX10_crow 8 = .ok (.if_icmp .le 6, 3) := by decide +kernel
theorem dX10_crow_11 : decode cX10_crow 11 = .ok (.ldc 92, 2) := by decide +kernel
theorem dX10_crow_13 : decode cX10_crow 13 = .ok (.ireturn, 1) := by decide +kernel
theorem dX10_crow_14 : decode cX10_crow 14 = .ok (.aload_n 0, 1) := by decide +kernel
theorem dX10_crow_15 : decode cX10_crow 15 = .ok (.getfield 12, 3) := by decide +kernel
theorem dX10_crow_18 : decode cX10_crow 18 = .ok (.invokevirtual 197, 3) := by decide +kernel
theorem dX10_crow_21 : decode cX10_crow 21 = .ok (.ifCond .ne 6, 3) := by decide +kernel
theorem dX10_crow_24 : decode cX10_crow 24 = .ok (.ldc 201, 2) := by decide +kernel
theorem dX10_crow_26 : decode cX10_crow 26 = .ok (.ireturn, 1) := by decide +kernel
theorem dX10_crow_27 : decode cX10_crow 27 = .ok (.aload_n 0, 1) := by decide +kernel
theorem dX10_crow_28 : decode cX10_crow 28 = .ok (.getfield 39, 3) := by decide +kernel
theorem dX10_crow_31 : decode cX10_crow 31 = .ok (.aload_n 0, 1) := by decide +kernel
theorem dX10_crow_32 : decode cX10_crow 32 = .ok (.getfield 29, 3) := by decide +kernel
theorem dX10_crow_35 : decode cX10_crow 35 = .ok (.invokevirtual 190, 3) := by decide +kernel
theorem dX10_crow_38 : decode cX10_crow 38 = .ok (.aload_n 0, 1) := by decide +kernel
theorem dX10_crow_39 : decode cX10_crow 39 = .ok (.getfield 29, 3) := by decide +kernel
theorem dX10_crow_42 : decode cX10_crow 42 = .ok (.aload_n 0, 1) := by decide +kernel
theorem dX10_crow_43 : decode cX10_crow 43 = .ok (.getfield 12, 3) := by decide +kernel
theorem dX10_crow_46 : decode cX10_crow 46 = .ok (.iload_n 1, 1) := by decide +kernel
theorem dX10_crow_47 : decode cX10_crow 47 = .ok (.invokevirtual 202, 3) := by decide +kernel
theorem dX10_crow_50 : decode cX10_crow 50 = .ok (.ireturn, 1) := by decide +kernel
theorem bX10_crow_0 {κ : gK} {M : MM} {Q : Int32 → MM → Prop} (l1 : Int32)
    (h : ((l1 < (1 : Int32) → G κ mX10_crow 11 [.null, .null] [] M Q) ∧ (¬ l1 < (1 : Int32) → ((l1 ≤ (9 : Int32) → Cl κ mX9_isThere [.ref 1] M (fun r1 M1 => ((r1 = 0 → Q (-1000000003 : Int32) M1) ∧ (¬ r1 = 0 → Cl κ mX4_remember [.ref 21, .ref 13] M1 (fun _ M2 => Cl κ mX8_hearCrow [.ref 13, .ref 1, .int l1] M2 (fun r3 M3 => Q r3 M3)))))) ∧ (¬ l1 ≤ (9 : Int32) → G κ mX10_crow 11 [.null, .null] [] M Q))))) :
    G κ mX10_crow 0 [.ref 0, .int l1] [] M Q := by
  refine g_iload_n (i := 1) dX10_crow_0 rfl rfl ?_
  refine g_iconst (v := (1 : Int32)) dX10_crow_1 (by decide) ?_
  refine g_icmp_lt (tgt := 11) dX10_crow_2 rfl ⟨fun hc => ?_, fun hc => ?_⟩
  · replace h := h.1 hc
    exact g_sub _ (sub_c (Or.inl rfl) (sub_c (Or.inl rfl) sub_n)) h
  · replace h := h.2 hc
    refine g_iload_n (i := 1) dX10_crow_5 rfl rfl ?_
    refine g_bipush (v := (9 : Int32)) dX10_crow_6 (by decide) ?_
    refine g_icmp_le (tgt := 14) dX10_crow_8 rfl ⟨fun hc => ?_, fun hc => ?_⟩
    · replace h := h.1 hc
      refine g_aload_n (i := 0) dX10_crow_14 rfl rfl ?_
      refine gf_RX10_12 rfl dX10_crow_15 sh_0 ?_
      refine gc_RX10_197 rfl (Nat.le_of_ble_eq_true rfl) dX10_crow_18 sh_1 (Nat.le_of_ble_eq_true rfl) ?_
      refine Cl.mono h (fun r1 M1 h => ?_)
      refine g_if_ne (tgt := 27) dX10_crow_21 rfl ⟨fun hc => ?_, fun hc => ?_⟩
      · replace h := h.1 hc
        refine g_ldc dX10_crow_24 wt_487 ?_
        exact g_iret dX10_crow_26 rfl h
      · replace h := h.2 hc
        refine g_aload_n (i := 0) dX10_crow_27 rfl rfl ?_
        refine gf_RX10_39 rfl dX10_crow_28 sh_0 ?_
        refine g_aload_n (i := 0) dX10_crow_31 rfl rfl ?_
        refine gf_RX10_29 rfl dX10_crow_32 sh_0 ?_
        refine gc_RX10_190 rfl (Nat.le_of_ble_eq_true rfl) dX10_crow_35 sh_21 (Nat.le_of_ble_eq_true rfl) ?_
        refine Cl.mono h (fun r2 M2 h => ?_)
        refine g_aload_n (i := 0) dX10_crow_38 rfl rfl ?_
        refine gf_RX10_29 rfl dX10_crow_39 sh_0 ?_
        refine g_aload_n (i := 0) dX10_crow_42 rfl rfl ?_
        refine gf_RX10_12 rfl dX10_crow_43 sh_0 ?_
        refine g_iload_n (i := 1) dX10_crow_46 rfl rfl ?_
        refine gc_RX10_202 rfl (Nat.le_of_ble_eq_true rfl) dX10_crow_47 sh_13 (Nat.le_of_ble_eq_true rfl) ?_
        refine Cl.mono h (fun r3 M3 h => ?_)
        exact g_iret dX10_crow_50 rfl h
    · replace h := h.2 hc
      exact g_sub _ (sub_c (Or.inl rfl) (sub_c (Or.inl rfl) sub_n)) h
theorem bX10_crow_11 {κ : gK} {M : MM} {Q : Int32 → MM → Prop} 
    (h : Q (-1000000002 : Int32) M) :
    G κ mX10_crow 11 [.null, .null] [] M Q := by
  refine g_ldc dX10_crow_11 wt_309 ?_
  exact g_iret dX10_crow_13 rfl h
theorem eX10_crow {κ : gK} {M : MM} {Q : Int32 → MM → Prop} (l1 : Int32)
    (h : G κ mX10_crow 0 [.ref 0, .int l1] [] M Q) : Cl κ mX10_crow [.ref 0, .int l1] M Q := g_entry 0 pl_X10_crow (Nat.le_of_ble_eq_true rfl) (L := [.ref 0, .int l1]) rfl (g_sub _ (sub_c (Or.inr rfl) (sub_c (Or.inr rfl) sub_n)) h)
theorem dX10_step_0 : decode cX10_step 0 = .ok (.aload_n 0, 1) := by decide +kernel
theorem dX10_step_1 : decode cX10_step 1 = .ok (.getfield 12, 3) := by decide +kernel
theorem dX10_step_4 : decode cX10_step 4 = .ok (.iload_n 1, 1) := by decide +kernel
theorem dX10_step_5 : decode cX10_step 5 = .ok (.invokevirtual 163, 3) := by decide +kernel
theorem dX10_step_8 : decode cX10_step 8 = .ok (.ifCond .eq 14, 3) := by decide +kernel
theorem dX10_step_11 : decode cX10_step 11 = .ok (.aload_n 0, 1) := by decide +kernel
theorem dX10_step_12 : decode cX10_step 12 = .ok (.getfield 12, 3) := by decide +kernel
theorem dX10_step_15 : decode cX10_step 15 = .ok (.iload_n 2, 1) := by decide +kernel
theorem dX10_step_16 : decode cX10_step 16 = .ok (.invokevirtual 184, 3) := by decide +kernel
theorem dX10_step_19 : decode cX10_step 19 = .ok (.ifCond .ne 6, 3) := by decide +kernel
theorem dX10_step_22 : decode cX10_step 22 = .ok (.ldc 167, 2) := by decide +kernel
theorem dX10_step_24 : decode cX10_step 24 = .ok (.ireturn, 1) := by decide +kernel
theorem dX10_step_25 : decode cX10_step 25 = .ok (.aload_n 0, 1) := by decide +kernel
theorem dX10_step_26 : decode cX10_step 26 = .ok (.getfield 39, 3) := by decide +kernel
theorem dX10_step_29 : decode cX10_step 29 = .ok (.aload_n 0, 1) := by decide +kernel
theorem dX10_step_30 : decode cX10_step 30 = .ok (.getfield 29, 3) := by decide +kernel
theorem dX10_step_33 : decode cX10_step 33 = .ok (.invokevirtual 190, 3) := by decide +kernel
theorem dX10_step_36 : decode cX10_step 36 = .ok (.aload_n 0, 1) := by decide +kernel
theorem dX10_step_37 : decode cX10_step 37 = .ok (.getfield 29, 3) := by decide +kernel
theorem dX10_step_40 : decode cX10_step 40 = .ok (.getfield 172, 3) := by decide +kernel
theorem dX10_step_43 : decode cX10_step 43 = .ok (.iload_n 1, 1) := by decide +kernel
theorem dX10_step_44 : decode cX10_step 44 = .ok (.iaload, 1) := by decide +kernel
theorem dX10_step_45 : decode cX10_step 45 = .ok (.istore_n 3, 1) := by decide +kernel
theorem dX10_step_46 : decode cX10_step 46 = .ok (.aload_n 0, 1) := by decide +kernel
theorem dX10_step_47 : decode cX10_step 47 = .ok (.getfield 29, 3) := by decide +kernel
theorem dX10_step_50 : decode cX10_step 50 = .ok (.getfield 172, 3) := by decide +kernel
theorem dX10_step_53 : decode cX10_step 53 = .ok (.iload_n 1, 1) := by decide +kernel
theorem dX10_step_54 : decode cX10_step 54 = .ok (.iconst 1, 1) := by decide +kernel
theorem dX10_step_55 : decode cX10_step 55 = .ok (.iload_n 2, 1) := by decide +kernel
theorem dX10_step_56 : decode cX10_step 56 = .ok (.ishl, 1) := by decide +kernel
theorem dX10_step_57 : decode cX10_step 57 = .ok (.iastore, 1) := by decide +kernel
theorem dX10_step_58 : decode cX10_step 58 = .ok (.iload_n 3, 1) := by decide +kernel
theorem dX10_step_59 : decode cX10_step 59 = .ok (.ireturn, 1) := by decide +kernel
theorem bX10_step_0 {κ : gK} {M : MM} {Q : Int32 → MM → Prop} (l1 : Int32) (l2 : Int32)
    (h : Cl κ mX9_hasPerson [.ref 1, .int l1] M (fun r1 M1 => ((r1 = 0 → G κ mX10_step 22 [.null, .null, .null, .null] [] M1 Q) ∧ (¬ r1 = 0 → Cl κ mX9_hasLayer [.ref 1, .int l2] M1 (fun r2 M2 => ((r2 = 0 → G κ mX10_step 22 [.null, .null, .null, .null] [] M2 Q) ∧ (¬ r2 = 0 → Cl κ mX4_remember [.ref 21, .ref 13] M2 (fun _ M3 => (vp_in l1 8) ∧ (∀ v4 : Int32, v4 = (M3 14 (l1).toNatClampNeg) → (∀ M5 : MM, M5 = (pt M3 14 (l1).toNatClampNeg (jshl (1 : Int32) l2)) → (Q v4 M5))))))))))) :
    G κ mX10_step 0 [.ref 0, .int l1, .int l2, .null] [] M Q := by
  refine g_aload_n (i := 0) dX10_step_0 rfl rfl ?_
  refine gf_RX10_12 rfl dX10_step_1 sh_0 ?_
  refine g_iload_n (i := 1) dX10_step_4 rfl rfl ?_
  refine gc_RX10_163 rfl (Nat.le_of_ble_eq_true rfl) dX10_step_5 sh_1 (Nat.le_of_ble_eq_true rfl) ?_
  refine Cl.mono h (fun r1 M1 h => ?_)
  refine g_if_eq (tgt := 22) dX10_step_8 rfl ⟨fun hc => ?_, fun hc => ?_⟩
  · replace h := h.1 hc
    exact g_sub _ (sub_c (Or.inl rfl) (sub_c (Or.inl rfl) (sub_c (Or.inl rfl) (sub_c (Or.inr rfl) sub_n)))) h
  · replace h := h.2 hc
    refine g_aload_n (i := 0) dX10_step_11 rfl rfl ?_
    refine gf_RX10_12 rfl dX10_step_12 sh_0 ?_
    refine g_iload_n (i := 2) dX10_step_15 rfl rfl ?_
    refine gc_RX10_184 rfl (Nat.le_of_ble_eq_true rfl) dX10_step_16 sh_1 (Nat.le_of_ble_eq_true rfl) ?_
    refine Cl.mono h (fun r2 M2 h => ?_)
    refine g_if_ne (tgt := 25) dX10_step_19 rfl ⟨fun hc => ?_, fun hc => ?_⟩
    · replace h := h.1 hc
      exact g_sub _ (sub_c (Or.inl rfl) (sub_c (Or.inl rfl) (sub_c (Or.inl rfl) (sub_c (Or.inr rfl) sub_n)))) h
    · replace h := h.2 hc
      refine g_aload_n (i := 0) dX10_step_25 rfl rfl ?_
      refine gf_RX10_39 rfl dX10_step_26 sh_0 ?_
      refine g_aload_n (i := 0) dX10_step_29 rfl rfl ?_
      refine gf_RX10_29 rfl dX10_step_30 sh_0 ?_
      refine gc_RX10_190 rfl (Nat.le_of_ble_eq_true rfl) dX10_step_33 sh_21 (Nat.le_of_ble_eq_true rfl) ?_
      refine Cl.mono h (fun r3 M3 h => ?_)
      refine g_aload_n (i := 0) dX10_step_36 rfl rfl ?_
      refine gf_RX10_29 rfl dX10_step_37 sh_0 ?_
      refine gf_RX10_172 rfl dX10_step_40 sh_13 ?_
      refine g_iload_n (i := 1) dX10_step_43 rfl rfl ?_
      have hv1 := h.1; replace h := h.2
      refine g_iald dX10_step_44 sh_14 hv1 ?_
      refine lv_nm (fun v4 hn4 => ?_) (x := (M3 14 (l1).toNatClampNeg))
      replace h := h v4 hn4
      refine g_istore_n (i := 3) (L' := [.ref 0, .int l1, .int l2, .int v4]) dX10_step_45 rfl (Nat.le_of_ble_eq_true rfl) rfl rfl ?_
      refine g_aload_n (i := 0) dX10_step_46 rfl rfl ?_
      refine gf_RX10_29 rfl dX10_step_47 sh_0 ?_
      refine gf_RX10_172 rfl dX10_step_50 sh_13 ?_
      refine g_iload_n (i := 1) dX10_step_53 rfl rfl ?_
      refine g_iconst (v := (1 : Int32)) dX10_step_54 (by decide) ?_
      refine g_iload_n (i := 2) dX10_step_55 rfl rfl ?_
      refine g_ishl dX10_step_56 ?_
      refine g_iastP dX10_step_57 sh_14 hv1 ?_
      refine g_nmM (fun M5 hM5 => ?_); replace h := h M5 hM5
      refine g_iload_n (i := 3) dX10_step_58 rfl rfl ?_
      exact g_iret dX10_step_59 rfl h
theorem bX10_step_22 {κ : gK} {M : MM} {Q : Int32 → MM → Prop} 
    (h : Q (-1000000001 : Int32) M) :
    G κ mX10_step 22 [.null, .null, .null, .null] [] M Q := by
  refine g_ldc dX10_step_22 wt_468 ?_
  exact g_iret dX10_step_24 rfl h
theorem eX10_step {κ : gK} {M : MM} {Q : Int32 → MM → Prop} (l1 : Int32) (l2 : Int32)
    (h : G κ mX10_step 0 [.ref 0, .int l1, .int l2, .null] [] M Q) : Cl κ mX10_step [.ref 0, .int l1, .int l2] M Q := g_entry 1 pl_X10_step (Nat.le_of_ble_eq_true rfl) (L := [.ref 0, .int l1, .int l2, .null]) rfl (g_sub _ (sub_c (Or.inr rfl) (sub_c (Or.inr rfl) (sub_c (Or.inr rfl) (sub_c (Or.inr rfl) sub_n)))) h)
theorem dX10_leave_0 : decode cX10_leave 0 = .ok (.aload_n 0, 1) := by decide +kernel
theorem dX10_leave_1 : decode cX10_leave 1 = .ok (.getfield 12, 3) := by decide +kernel
theorem dX10_leave_4 : decode cX10_leave 4 = .ok (.iload_n 1, 1) := by decide +kernel
theorem dX10_leave_5 : decode cX10_leave 5 = .ok (.invokevirtual 163, 3) := by decide +kernel
theorem dX10_leave_8 : decode cX10_leave 8 = .ok (.ifCond .eq 14, 3) := by decide +kernel
theorem dX10_leave_11 : decode cX10_leave 11 = .ok (.aload_n 0, 1) := by decide +kernel
theorem dX10_leave_12 : decode cX10_leave 12 = .ok (.getfield 12, 3) := by decide +kernel
theorem dX10_leave_15 : decode cX10_leave 15 = .ok (.iload_n 2, 1) := by decide +kernel
theorem dX10_leave_16 : decode cX10_leave 16 = .ok (.invokevirtual 184, 3) := by decide +kernel
theorem dX10_leave_19 : decode cX10_leave 19 = .ok (.ifCond .ne 6, 3) := by decide +kernel
theorem dX10_leave_22 : decode cX10_leave 22 = .ok (.ldc 167, 2) := by decide +kernel
theorem dX10_leave_24 : decode cX10_leave 24 = .ok (.ireturn, 1) := by decide +kernel
theorem dX10_leave_25 : decode cX10_leave 25 = .ok (.aload_n 0, 1) := by decide +kernel
theorem dX10_leave_26 : decode cX10_leave 26 = .ok (.getfield 29, 3) := by decide +kernel
theorem dX10_leave_29 : decode cX10_leave 29 = .ok (.getfield 172, 3) := by decide +kernel
theorem dX10_leave_32 : decode cX10_leave 32 = .ok (.iload_n 1, 1) := by decide +kernel
theorem dX10_leave_33 : decode cX10_leave 33 = .ok (.iaload, 1) := by decide +kernel
theorem dX10_leave_34 : decode cX10_leave 34 = .ok (.iconst 1, 1) := by decide +kernel
theorem dX10_leave_35 : decode cX10_leave 35 = .ok (.iload_n 2, 1) := by decide +kernel
theorem dX10_leave_36 : decode cX10_leave 36 = .ok (.ishl, 1) := by decide +kernel
theorem dX10_leave_37 : decode cX10_leave 37 = .ok (.iconst (-1), 1) := by decide +kernel
theorem dX10_leave_38 : decode cX10_leave 38 = .ok (.ixor, 1) := by decide +kernel
theorem dX10_leave_39 : decode cX10_leave 39 = .ok (.iand, 1) := by decide +kernel
theorem dX10_leave_40 : decode cX10_leave 40 = .ok (.istore_n 3, 1) := by decide +kernel
theorem dX10_leave_41 : decode cX10_leave 41 = .ok (.iload_n 3, 1) := by decide +kernel
theorem dX10_leave_42 : decode cX10_leave 42 = .ok (.aload_n 0, 1) := by decide +kernel
theorem dX10_leave_43 : decode cX10_leave 43 = .ok (.getfield 29, 3) := by decide +kernel
theorem dX10_leave_46 : decode cX10_leave 46 = .ok (.getfield 172, 3) := by decide +kernel
theorem dX10_leave_49 : decode cX10_leave 49 = .ok (.iload_n 1, 1) := by decide +kernel
theorem dX10_leave_50 : decode cX10_leave 50 = .ok (.iaload, 1) := by decide +kernel
theorem dX10_leave_51 : decode cX10_leave 51 = .ok (.if_icmp .eq 7, 3) := by decide +kernel
theorem dX10_leave_54 : decode cX10_leave 54 = .ok (.iload_n 3, 1) := by decide +kernel
theorem dX10_leave_55 : decode cX10_leave 55 = .ok (.ifCond .ne 6, 3) := by decide +kernel
theorem dX10_leave_58 : decode cX10_leave 58 = .ok (.ldc 201, 2) := by decide +kernel
theorem dX10_leave_60 : decode cX10_leave 60 = .ok (.ireturn, 1) := by decide +kernel
theorem dX10_leave_61 : decode cX10_leave 61 = .ok (.aload_n 0, 1) := by decide +kernel
theorem dX10_leave_62 : decode cX10_leave 62 = .ok (.getfield 39, 3) := by decide +kernel
theorem dX10_leave_65 : decode cX10_leave 65 = .ok (.aload_n 0, 1) := by decide +kernel
theorem dX10_leave_66 : decode cX10_leave 66 = .ok (.getfield 29, 3) := by decide +kernel
theorem dX10_leave_69 : decode cX10_leave 69 = .ok (.invokevirtual 190, 3) := by decide +kernel
theorem dX10_leave_72 : decode cX10_leave 72 = .ok (.aload_n 0, 1) := by decide +kernel
theorem dX10_leave_73 : decode cX10_leave 73 = .ok (.getfield 29, 3) := by decide +kernel
theorem dX10_leave_76 : decode cX10_leave 76 = .ok (.getfield 172, 3) := by decide +kernel
theorem dX10_leave_79 : decode cX10_leave 79 = .ok (.iload_n 1, 1) := by decide +kernel
theorem dX10_leave_80 : decode cX10_leave 80 = .ok (.iload_n 3, 1) := by decide +kernel
theorem dX10_leave_81 : decode cX10_leave 81 = .ok (.iastore, 1) := by decide +kernel
theorem dX10_leave_82 : decode cX10_leave 82 = .ok (.iload_n 3, 1) := by decide +kernel
theorem dX10_leave_83 : decode cX10_leave 83 = .ok (.ireturn, 1) := by decide +kernel
theorem bX10_leave_0 {κ : gK} {M : MM} {Q : Int32 → MM → Prop} (l1 : Int32) (l2 : Int32)
    (h : Cl κ mX9_hasPerson [.ref 1, .int l1] M (fun r1 M1 => ((r1 = 0 → G κ mX10_leave 22 [.null, .null, .null, .null] [] M1 Q) ∧ (¬ r1 = 0 → Cl κ mX9_hasLayer [.ref 1, .int l2] M1 (fun r2 M2 => ((r2 = 0 → G κ mX10_leave 22 [.null, .null, .null, .null] [] M2 Q) ∧ (¬ r2 = 0 → (vp_in l1 8) ∧ (∀ v3 : Int32, v3 = ((M2 14 (l1).toNatClampNeg) &&& ((jshl (1 : Int32) l2) ^^^ (-1 : Int32))) → (((v3 = (M2 14 (l1).toNatClampNeg) → G κ mX10_leave 58 [.null, .null, .null, .null] [] M2 Q) ∧ (¬ v3 = (M2 14 (l1).toNatClampNeg) → ((v3 = 0 → G κ mX10_leave 58 [.null, .null, .null, .null] [] M2 Q) ∧ (¬ v3 = 0 → Cl κ mX4_remember [.ref 21, .ref 13] M2 (fun _ M4 => ∀ M5 : MM, M5 = (pt M4 14 (l1).toNatClampNeg v3) → (Q v3 M5))))))))))))))) :
    G κ mX10_leave 0 [.ref 0, .int l1, .int l2, .null] [] M Q := by
  refine g_aload_n (i := 0) dX10_leave_0 rfl rfl ?_
  refine gf_RX10_12 rfl dX10_leave_1 sh_0 ?_
  refine g_iload_n (i := 1) dX10_leave_4 rfl rfl ?_
  refine gc_RX10_163 rfl (Nat.le_of_ble_eq_true rfl) dX10_leave_5 sh_1 (Nat.le_of_ble_eq_true rfl) ?_
  refine Cl.mono h (fun r1 M1 h => ?_)
  refine g_if_eq (tgt := 22) dX10_leave_8 rfl ⟨fun hc => ?_, fun hc => ?_⟩
  · replace h := h.1 hc
    exact g_sub _ (sub_c (Or.inl rfl) (sub_c (Or.inl rfl) (sub_c (Or.inl rfl) (sub_c (Or.inr rfl) sub_n)))) h
  · replace h := h.2 hc
    refine g_aload_n (i := 0) dX10_leave_11 rfl rfl ?_
    refine gf_RX10_12 rfl dX10_leave_12 sh_0 ?_
    refine g_iload_n (i := 2) dX10_leave_15 rfl rfl ?_
    refine gc_RX10_184 rfl (Nat.le_of_ble_eq_true rfl) dX10_leave_16 sh_1 (Nat.le_of_ble_eq_true rfl) ?_
    refine Cl.mono h (fun r2 M2 h => ?_)
    refine g_if_ne (tgt := 25) dX10_leave_19 rfl ⟨fun hc => ?_, fun hc => ?_⟩
    · replace h := h.1 hc
      exact g_sub _ (sub_c (Or.inl rfl) (sub_c (Or.inl rfl) (sub_c (Or.inl rfl) (sub_c (Or.inr rfl) sub_n)))) h
    · replace h := h.2 hc
      refine g_aload_n (i := 0) dX10_leave_25 rfl rfl ?_
      refine gf_RX10_29 rfl dX10_leave_26 sh_0 ?_
      refine gf_RX10_172 rfl dX10_leave_29 sh_13 ?_
      refine g_iload_n (i := 1) dX10_leave_32 rfl rfl ?_
      have hv1 := h.1; replace h := h.2
      refine g_iald dX10_leave_33 sh_14 hv1 ?_
      refine g_iconst (v := (1 : Int32)) dX10_leave_34 (by decide) ?_
      refine g_iload_n (i := 2) dX10_leave_35 rfl rfl ?_
      refine g_ishl dX10_leave_36 ?_
      refine g_iconst (v := (-1 : Int32)) dX10_leave_37 (by decide) ?_
      refine g_ixor dX10_leave_38 ?_
      refine g_iand dX10_leave_39 ?_
      refine lv_nm (fun v3 hn3 => ?_) (x := ((M2 14 (l1).toNatClampNeg) &&& ((jshl (1 : Int32) l2) ^^^ (-1 : Int32))))
      replace h := h v3 hn3
      refine g_istore_n (i := 3) (L' := [.ref 0, .int l1, .int l2, .int v3]) dX10_leave_40 rfl (Nat.le_of_ble_eq_true rfl) rfl rfl ?_
      refine g_iload_n (i := 3) dX10_leave_41 rfl rfl ?_
      refine g_aload_n (i := 0) dX10_leave_42 rfl rfl ?_
      refine gf_RX10_29 rfl dX10_leave_43 sh_0 ?_
      refine gf_RX10_172 rfl dX10_leave_46 sh_13 ?_
      refine g_iload_n (i := 1) dX10_leave_49 rfl rfl ?_
      refine g_iald dX10_leave_50 sh_14 hv1 ?_
      refine g_icmp_eq (tgt := 58) dX10_leave_51 rfl ⟨fun hc => ?_, fun hc => ?_⟩
      · replace h := h.1 hc
        exact g_sub _ (sub_c (Or.inl rfl) (sub_c (Or.inl rfl) (sub_c (Or.inl rfl) (sub_c (Or.inl rfl) sub_n)))) h
      · replace h := h.2 hc
        refine g_iload_n (i := 3) dX10_leave_54 rfl rfl ?_
        refine g_if_ne (tgt := 61) dX10_leave_55 rfl ⟨fun hc => ?_, fun hc => ?_⟩
        · replace h := h.1 hc
          exact g_sub _ (sub_c (Or.inl rfl) (sub_c (Or.inl rfl) (sub_c (Or.inl rfl) (sub_c (Or.inl rfl) sub_n)))) h
        · replace h := h.2 hc
          refine g_aload_n (i := 0) dX10_leave_61 rfl rfl ?_
          refine gf_RX10_39 rfl dX10_leave_62 sh_0 ?_
          refine g_aload_n (i := 0) dX10_leave_65 rfl rfl ?_
          refine gf_RX10_29 rfl dX10_leave_66 sh_0 ?_
          refine gc_RX10_190 rfl (Nat.le_of_ble_eq_true rfl) dX10_leave_69 sh_21 (Nat.le_of_ble_eq_true rfl) ?_
          refine Cl.mono h (fun r4 M4 h => ?_)
          refine g_aload_n (i := 0) dX10_leave_72 rfl rfl ?_
          refine gf_RX10_29 rfl dX10_leave_73 sh_0 ?_
          refine gf_RX10_172 rfl dX10_leave_76 sh_13 ?_
          refine g_iload_n (i := 1) dX10_leave_79 rfl rfl ?_
          refine g_iload_n (i := 3) dX10_leave_80 rfl rfl ?_
          refine g_iastP dX10_leave_81 sh_14 hv1 ?_
          refine g_nmM (fun M5 hM5 => ?_); replace h := h M5 hM5
          refine g_iload_n (i := 3) dX10_leave_82 rfl rfl ?_
          exact g_iret dX10_leave_83 rfl h
theorem bX10_leave_22 {κ : gK} {M : MM} {Q : Int32 → MM → Prop} 
    (h : Q (-1000000001 : Int32) M) :
    G κ mX10_leave 22 [.null, .null, .null, .null] [] M Q := by
  refine g_ldc dX10_leave_22 wt_468 ?_
  exact g_iret dX10_leave_24 rfl h
theorem bX10_leave_58 {κ : gK} {M : MM} {Q : Int32 → MM → Prop} 
    (h : Q (-1000000003 : Int32) M) :
    G κ mX10_leave 58 [.null, .null, .null, .null] [] M Q := by
  refine g_ldc dX10_leave_58 wt_487 ?_
  exact g_iret dX10_leave_60 rfl h
theorem eX10_leave {κ : gK} {M : MM} {Q : Int32 → MM → Prop} (l1 : Int32) (l2 : Int32)
    (h : G κ mX10_leave 0 [.ref 0, .int l1, .int l2, .null] [] M Q) : Cl κ mX10_leave [.ref 0, .int l1, .int l2] M Q := g_entry 1 pl_X10_leave (Nat.le_of_ble_eq_true rfl) (L := [.ref 0, .int l1, .int l2, .null]) rfl (g_sub _ (sub_c (Or.inr rfl) (sub_c (Or.inr rfl) (sub_c (Or.inr rfl) (sub_c (Or.inr rfl) sub_n)))) h)
theorem dX10_ear_0 : decode cX10_ear 0 = .ok (.aload_n 0, 1) := by decide +kernel
theorem dX10_ear_1 : decode cX10_ear 1 = .ok (.getfield 12, 3) := by decide +kernel
theorem dX10_ear_4 : decode cX10_ear 4 = .ok (.iload_n 1, 1) := by decide +kernel
theorem dX10_ear_5 : decode cX10_ear 5 = .ok (.invokevirtual 163, 3) := by decide +kernel
theorem dX10_ear_8 : decode cX10_ear 8 = .ok (.ifCond .ne 6, 3) := by decide +kernel
theorem dX10_ear_11 : decode cX10_ear 11 = .ok (.ldc 167, 2) := by decide +kernel
theorem dX10_ear_13 : decode cX10_ear 13 = .ok (.ireturn, 1) := by decide +kernel
theorem dX10_ear_14 : decode cX10_ear 14 = .ok (.iload_n 2, 1) := by decide +kernel
theorem dX10_ear_15 : decode cX10_ear 15 = .ok (.ifCond .lt 9, 3) := by decide +kernel
theorem dX10_ear_18 : decode cX10_ear 18 = .ok (.iload_n 2, 1) := by decide +kernel
theorem dX10_ear_19 : decode cX10_ear 19 = .ok (.bipush 9, 2) := by decide +kernel
theorem dX10_ear_21 : decode cX10_ear 21 = .ok (.if_icmp .le 6, 3) := by decide +kernel
theorem dX10_ear_24 : decode cX10_ear 24 = .ok (.ldc 92, 2) := by decide +kernel
theorem dX10_ear_26 : decode cX10_ear 26 = .ok (.ireturn, 1) := by decide +kernel
theorem dX10_ear_27 : decode cX10_ear 27 = .ok (.aload_n 0, 1) := by decide +kernel
theorem dX10_ear_28 : decode cX10_ear 28 = .ok (.getfield 39, 3) := by decide +kernel
theorem dX10_ear_31 : decode cX10_ear 31 = .ok (.aload_n 0, 1) := by decide +kernel
theorem dX10_ear_32 : decode cX10_ear 32 = .ok (.getfield 29, 3) := by decide +kernel
theorem dX10_ear_35 : decode cX10_ear 35 = .ok (.invokevirtual 190, 3) := by decide +kernel
theorem dX10_ear_38 : decode cX10_ear 38 = .ok (.aload_n 0, 1) := by decide +kernel
theorem dX10_ear_39 : decode cX10_ear 39 = .ok (.getfield 29, 3) := by decide +kernel
theorem dX10_ear_42 : decode cX10_ear 42 = .ok (.getfield 175, 3) := by decide +kernel
theorem dX10_ear_45 : decode cX10_ear 45 = .ok (.iload_n 1, 1) := by decide +kernel
theorem dX10_ear_46 : decode cX10_ear 46 = .ok (.iaload, 1) := by decide +kernel
theorem dX10_ear_47 : decode cX10_ear 47 = .ok (.istore_n 3, 1) := by decide +kernel
theorem dX10_ear_48 : decode cX10_ear 48 = .ok (.aload_n 0, 1) := by decide +kernel
theorem dX10_ear_49 : decode cX10_ear 49 = .ok (.getfield 29, 3) := by decide +kernel
theorem dX10_ear_52 : decode cX10_ear 52 = .ok (.getfield 175, 3) := by decide +kernel
theorem dX10_ear_55 : decode cX10_ear 55 = .ok (.iload_n 1, 1) := by decide +kernel
theorem dX10_ear_56 : decode cX10_ear 56 = .ok (.iload_n 2, 1) := by decide +kernel
theorem dX10_ear_57 : decode cX10_ear 57 = .ok (.iastore, 1) := by decide +kernel
theorem dX10_ear_58 : decode cX10_ear 58 = .ok (.iload_n 3, 1) := by decide +kernel
theorem dX10_ear_59 : decode cX10_ear 59 = .ok (.ireturn, 1) := by decide +kernel
theorem bX10_ear_0 {κ : gK} {M : MM} {Q : Int32 → MM → Prop} (l1 : Int32) (l2 : Int32)
    (h : Cl κ mX9_hasPerson [.ref 1, .int l1] M (fun r1 M1 => ((r1 = 0 → Q (-1000000001 : Int32) M1) ∧ (¬ r1 = 0 → ((l2 < 0 → G κ mX10_ear 24 [.null, .null, .null, .null] [] M1 Q) ∧ (¬ l2 < 0 → ((l2 ≤ (9 : Int32) → Cl κ mX4_remember [.ref 21, .ref 13] M1 (fun _ M2 => (vp_in l1 8) ∧ (∀ v3 : Int32, v3 = (M2 15 (l1).toNatClampNeg) → (∀ M4 : MM, M4 = (pt M2 15 (l1).toNatClampNeg l2) → (Q v3 M4))))) ∧ (¬ l2 ≤ (9 : Int32) → G κ mX10_ear 24 [.null, .null, .null, .null] [] M1 Q)))))))) :
    G κ mX10_ear 0 [.ref 0, .int l1, .int l2, .null] [] M Q := by
  refine g_aload_n (i := 0) dX10_ear_0 rfl rfl ?_
  refine gf_RX10_12 rfl dX10_ear_1 sh_0 ?_
  refine g_iload_n (i := 1) dX10_ear_4 rfl rfl ?_
  refine gc_RX10_163 rfl (Nat.le_of_ble_eq_true rfl) dX10_ear_5 sh_1 (Nat.le_of_ble_eq_true rfl) ?_
  refine Cl.mono h (fun r1 M1 h => ?_)
  refine g_if_ne (tgt := 14) dX10_ear_8 rfl ⟨fun hc => ?_, fun hc => ?_⟩
  · replace h := h.1 hc
    refine g_ldc dX10_ear_11 wt_468 ?_
    exact g_iret dX10_ear_13 rfl h
  · replace h := h.2 hc
    refine g_iload_n (i := 2) dX10_ear_14 rfl rfl ?_
    refine g_if_lt (tgt := 24) dX10_ear_15 rfl ⟨fun hc => ?_, fun hc => ?_⟩
    · replace h := h.1 hc
      exact g_sub _ (sub_c (Or.inl rfl) (sub_c (Or.inl rfl) (sub_c (Or.inl rfl) (sub_c (Or.inr rfl) sub_n)))) h
    · replace h := h.2 hc
      refine g_iload_n (i := 2) dX10_ear_18 rfl rfl ?_
      refine g_bipush (v := (9 : Int32)) dX10_ear_19 (by decide) ?_
      refine g_icmp_le (tgt := 27) dX10_ear_21 rfl ⟨fun hc => ?_, fun hc => ?_⟩
      · replace h := h.1 hc
        refine g_aload_n (i := 0) dX10_ear_27 rfl rfl ?_
        refine gf_RX10_39 rfl dX10_ear_28 sh_0 ?_
        refine g_aload_n (i := 0) dX10_ear_31 rfl rfl ?_
        refine gf_RX10_29 rfl dX10_ear_32 sh_0 ?_
        refine gc_RX10_190 rfl (Nat.le_of_ble_eq_true rfl) dX10_ear_35 sh_21 (Nat.le_of_ble_eq_true rfl) ?_
        refine Cl.mono h (fun r2 M2 h => ?_)
        refine g_aload_n (i := 0) dX10_ear_38 rfl rfl ?_
        refine gf_RX10_29 rfl dX10_ear_39 sh_0 ?_
        refine gf_RX10_175 rfl dX10_ear_42 sh_13 ?_
        refine g_iload_n (i := 1) dX10_ear_45 rfl rfl ?_
        have hv1 := h.1; replace h := h.2
        refine g_iald dX10_ear_46 sh_15 hv1 ?_
        refine lv_nm (fun v3 hn3 => ?_) (x := (M2 15 (l1).toNatClampNeg))
        replace h := h v3 hn3
        refine g_istore_n (i := 3) (L' := [.ref 0, .int l1, .int l2, .int v3]) dX10_ear_47 rfl (Nat.le_of_ble_eq_true rfl) rfl rfl ?_
        refine g_aload_n (i := 0) dX10_ear_48 rfl rfl ?_
        refine gf_RX10_29 rfl dX10_ear_49 sh_0 ?_
        refine gf_RX10_175 rfl dX10_ear_52 sh_13 ?_
        refine g_iload_n (i := 1) dX10_ear_55 rfl rfl ?_
        refine g_iload_n (i := 2) dX10_ear_56 rfl rfl ?_
        refine g_iastP dX10_ear_57 sh_15 hv1 ?_
        refine g_nmM (fun M4 hM4 => ?_); replace h := h M4 hM4
        refine g_iload_n (i := 3) dX10_ear_58 rfl rfl ?_
        exact g_iret dX10_ear_59 rfl h
      · replace h := h.2 hc
        exact g_sub _ (sub_c (Or.inl rfl) (sub_c (Or.inl rfl) (sub_c (Or.inl rfl) (sub_c (Or.inr rfl) sub_n)))) h
theorem bX10_ear_24 {κ : gK} {M : MM} {Q : Int32 → MM → Prop} 
    (h : Q (-1000000002 : Int32) M) :
    G κ mX10_ear 24 [.null, .null, .null, .null] [] M Q := by
  refine g_ldc dX10_ear_24 wt_309 ?_
  exact g_iret dX10_ear_26 rfl h
theorem eX10_ear {κ : gK} {M : MM} {Q : Int32 → MM → Prop} (l1 : Int32) (l2 : Int32)
    (h : G κ mX10_ear 0 [.ref 0, .int l1, .int l2, .null] [] M Q) : Cl κ mX10_ear [.ref 0, .int l1, .int l2] M Q := g_entry 1 pl_X10_ear (Nat.le_of_ble_eq_true rfl) (L := [.ref 0, .int l1, .int l2, .null]) rfl (g_sub _ (sub_c (Or.inr rfl) (sub_c (Or.inr rfl) (sub_c (Or.inr rfl) (sub_c (Or.inr rfl) sub_n)))) h)
theorem dX10_deed_0 : decode cX10_deed 0 = .ok (.aload_n 0, 1) := by decide +kernel
theorem dX10_deed_1 : decode cX10_deed 1 = .ok (.getfield 12, 3) := by decide +kernel
theorem dX10_deed_4 : decode cX10_deed 4 = .ok (.iload_n 1, 1) := by decide +kernel
theorem dX10_deed_5 : decode cX10_deed 5 = .ok (.invokevirtual 163, 3) := by decide +kernel
theorem dX10_deed_8 : decode cX10_deed 8 = .ok (.ifCond .ne 6, 3) := by decide +kernel
theorem dX10_deed_11 : decode cX10_deed 11 = .ok (.ldc 167, 2) := by decide +kernel
theorem dX10_deed_13 : decode cX10_deed 13 = .ok (.ireturn, 1) := by decide +kernel
theorem dX10_deed_14 : decode cX10_deed 14 = .ok (.aload_n 0, 1) := by decide +kernel
theorem dX10_deed_15 : decode cX10_deed 15 = .ok (.getfield 39, 3) := by decide +kernel
theorem dX10_deed_18 : decode cX10_deed 18 = .ok (.aload_n 0, 1) := by decide +kernel
theorem dX10_deed_19 : decode cX10_deed 19 = .ok (.getfield 29, 3) := by decide +kernel
theorem dX10_deed_22 : decode cX10_deed 22 = .ok (.invokevirtual 190, 3) := by decide +kernel
theorem dX10_deed_25 : decode cX10_deed 25 = .ok (.aload_n 0, 1) := by decide +kernel
theorem dX10_deed_26 : decode cX10_deed 26 = .ok (.getfield 29, 3) := by decide +kernel
theorem dX10_deed_29 : decode cX10_deed 29 = .ok (.dup, 1) := by decide +kernel
theorem dX10_deed_30 : decode cX10_deed 30 = .ok (.getfield 138, 3) := by decide +kernel
theorem dX10_deed_33 : decode cX10_deed 33 = .ok (.aload_n 0, 1) := by decide +kernel
theorem dX10_deed_34 : decode cX10_deed 34 = .ok (.getfield 29, 3) := by decide +kernel
theorem dX10_deed_37 : decode cX10_deed 37 = .ok (.getfield 172, 3) := by decide +kernel
theorem dX10_deed_40 : decode cX10_deed 40 = .ok (.iload_n 1, 1) := by decide +kernel
theorem dX10_deed_41 : decode cX10_deed 41 = .ok (.iaload, 1) := by decide +kernel
theorem dX10_deed_42 : decode cX10_deed 42 = .ok (.ior, 1) := by decide +kernel
theorem dX10_deed_43 : decode cX10_deed 43 = .ok (.putfield 138, 3) := by decide +kernel
theorem dX10_deed_46 : decode cX10_deed 46 = .ok (.aload_n 0, 1) := by decide +kernel
theorem dX10_deed_47 : decode cX10_deed 47 = .ok (.getfield 29, 3) := by decide +kernel
theorem dX10_deed_50 : decode cX10_deed 50 = .ok (.getfield 138, 3) := by decide +kernel
theorem dX10_deed_53 : decode cX10_deed 53 = .ok (.ireturn, 1) := by decide +kernel
theorem bX10_deed_0 {κ : gK} {M : MM} {Q : Int32 → MM → Prop} (l1 : Int32)
    (h : Cl κ mX9_hasPerson [.ref 1, .int l1] M (fun r1 M1 => ((r1 = 0 → Q (-1000000001 : Int32) M1) ∧ (¬ r1 = 0 → Cl κ mX4_remember [.ref 21, .ref 13] M1 (fun _ M2 => (vp_in l1 8) ∧ (∀ M3 : MM, M3 = (pt M2 13 4 ((M2 13 4) ||| (M2 14 (l1).toNatClampNeg))) → (Q (M3 13 4) M3))))))) :
    G κ mX10_deed 0 [.ref 0, .int l1] [] M Q := by
  refine g_aload_n (i := 0) dX10_deed_0 rfl rfl ?_
  refine gf_RX10_12 rfl dX10_deed_1 sh_0 ?_
  refine g_iload_n (i := 1) dX10_deed_4 rfl rfl ?_
  refine gc_RX10_163 rfl (Nat.le_of_ble_eq_true rfl) dX10_deed_5 sh_1 (Nat.le_of_ble_eq_true rfl) ?_
  refine Cl.mono h (fun r1 M1 h => ?_)
  refine g_if_ne (tgt := 14) dX10_deed_8 rfl ⟨fun hc => ?_, fun hc => ?_⟩
  · replace h := h.1 hc
    refine g_ldc dX10_deed_11 wt_468 ?_
    exact g_iret dX10_deed_13 rfl h
  · replace h := h.2 hc
    refine g_aload_n (i := 0) dX10_deed_14 rfl rfl ?_
    refine gf_RX10_39 rfl dX10_deed_15 sh_0 ?_
    refine g_aload_n (i := 0) dX10_deed_18 rfl rfl ?_
    refine gf_RX10_29 rfl dX10_deed_19 sh_0 ?_
    refine gc_RX10_190 rfl (Nat.le_of_ble_eq_true rfl) dX10_deed_22 sh_21 (Nat.le_of_ble_eq_true rfl) ?_
    refine Cl.mono h (fun r2 M2 h => ?_)
    refine g_aload_n (i := 0) dX10_deed_25 rfl rfl ?_
    refine gf_RX10_29 rfl dX10_deed_26 sh_0 ?_
    refine g_dup dX10_deed_29 rfl ?_
    refine gf_RX10_138 rfl dX10_deed_30 sh_13 ?_
    refine g_aload_n (i := 0) dX10_deed_33 rfl rfl ?_
    refine gf_RX10_29 rfl dX10_deed_34 sh_0 ?_
    refine gf_RX10_172 rfl dX10_deed_37 sh_13 ?_
    refine g_iload_n (i := 1) dX10_deed_40 rfl rfl ?_
    have hv1 := h.1; replace h := h.2
    refine g_iald dX10_deed_41 sh_14 hv1 ?_
    refine g_ior dX10_deed_42 ?_
    refine gp_RX10_138 rfl dX10_deed_43 sh_13 ?_
    refine g_nmM (fun M3 hM3 => ?_); replace h := h M3 hM3
    refine g_aload_n (i := 0) dX10_deed_46 rfl rfl ?_
    refine gf_RX10_29 rfl dX10_deed_47 sh_0 ?_
    refine gf_RX10_138 rfl dX10_deed_50 sh_13 ?_
    exact g_iret dX10_deed_53 rfl h
theorem eX10_deed {κ : gK} {M : MM} {Q : Int32 → MM → Prop} (l1 : Int32)
    (h : G κ mX10_deed 0 [.ref 0, .int l1] [] M Q) : Cl κ mX10_deed [.ref 0, .int l1] M Q := g_entry 0 pl_X10_deed (Nat.le_of_ble_eq_true rfl) (L := [.ref 0, .int l1]) rfl (g_sub _ (sub_c (Or.inr rfl) (sub_c (Or.inr rfl) sub_n)) h)
theorem dX10_wipe_0 : decode cX10_wipe 0 = .ok (.aload_n 0, 1) := by decide +kernel
theorem dX10_wipe_1 : decode cX10_wipe 1 = .ok (.getfield 12, 3) := by decide +kernel
theorem dX10_wipe_4 : decode cX10_wipe 4 = .ok (.invokevirtual 197, 3) := by decide +kernel
theorem dX10_wipe_7 : decode cX10_wipe 7 = .ok (.ifCond .ne 6, 3) := by decide +kernel
theorem dX10_wipe_10 : decode cX10_wipe 10 = .ok (.ldc 201, 2) := by decide +kernel
theorem dX10_wipe_12 : decode cX10_wipe 12 = .ok (.ireturn, 1) := by decide +kernel
theorem dX10_wipe_13 : decode cX10_wipe 13 = .ok (.aload_n 0, 1) := by decide +kernel
theorem dX10_wipe_14 : decode cX10_wipe 14 = .ok (.getfield 39, 3) := by decide +kernel
theorem dX10_wipe_17 : decode cX10_wipe 17 = .ok (.aload_n 0, 1) := by decide +kernel
theorem dX10_wipe_18 : decode cX10_wipe 18 = .ok (.getfield 29, 3) := by decide +kernel
theorem dX10_wipe_21 : decode cX10_wipe 21 = .ok (.invokevirtual 190, 3) := by decide +kernel
theorem dX10_wipe_24 : decode cX10_wipe 24 = .ok (.aload_n 0, 1) := by decide +kernel
theorem dX10_wipe_25 : decode cX10_wipe 25 = .ok (.getfield 29, 3) := by decide +kernel
theorem dX10_wipe_28 : decode cX10_wipe 28 = .ok (.getfield 138, 3) := by decide +kernel
theorem dX10_wipe_31 : decode cX10_wipe 31 = .ok (.istore_n 1, 1) := by decide +kernel
theorem dX10_wipe_32 : decode cX10_wipe 32 = .ok (.aload_n 0, 1) := by decide +kernel
theorem dX10_wipe_33 : decode cX10_wipe 33 = .ok (.getfield 29, 3) := by decide +kernel
theorem dX10_wipe_36 : decode cX10_wipe 36 = .ok (.iconst 0, 1) := by decide +kernel
theorem dX10_wipe_37 : decode cX10_wipe 37 = .ok (.putfield 138, 3) := by decide +kernel
theorem dX10_wipe_40 : decode cX10_wipe 40 = .ok (.iload_n 1, 1) := by decide +kernel
theorem dX10_wipe_41 : decode cX10_wipe 41 = .ok (.ireturn, 1) := by decide +kernel
theorem bX10_wipe_0 {κ : gK} {M : MM} {Q : Int32 → MM → Prop} 
    (h : Cl κ mX9_isThere [.ref 1] M (fun r1 M1 => ((r1 = 0 → Q (-1000000003 : Int32) M1) ∧ (¬ r1 = 0 → Cl κ mX4_remember [.ref 21, .ref 13] M1 (fun _ M2 => ∀ M3 : MM, M3 = (pt M2 13 4 (0 : Int32)) → (Q (M2 13 4) M3)))))) :
    G κ mX10_wipe 0 [.ref 0, .null] [] M Q := by
  refine g_aload_n (i := 0) dX10_wipe_0 rfl rfl ?_
  refine gf_RX10_12 rfl dX10_wipe_1 sh_0 ?_
  refine gc_RX10_197 rfl (Nat.le_of_ble_eq_true rfl) dX10_wipe_4 sh_1 (Nat.le_of_ble_eq_true rfl) ?_
  refine Cl.mono h (fun r1 M1 h => ?_)
  refine g_if_ne (tgt := 13) dX10_wipe_7 rfl ⟨fun hc => ?_, fun hc => ?_⟩
  · replace h := h.1 hc
    refine g_ldc dX10_wipe_10 wt_487 ?_
    exact g_iret dX10_wipe_12 rfl h
  · replace h := h.2 hc
    refine g_aload_n (i := 0) dX10_wipe_13 rfl rfl ?_
    refine gf_RX10_39 rfl dX10_wipe_14 sh_0 ?_
    refine g_aload_n (i := 0) dX10_wipe_17 rfl rfl ?_
    refine gf_RX10_29 rfl dX10_wipe_18 sh_0 ?_
    refine gc_RX10_190 rfl (Nat.le_of_ble_eq_true rfl) dX10_wipe_21 sh_21 (Nat.le_of_ble_eq_true rfl) ?_
    refine Cl.mono h (fun r2 M2 h => ?_)
    refine g_aload_n (i := 0) dX10_wipe_24 rfl rfl ?_
    refine gf_RX10_29 rfl dX10_wipe_25 sh_0 ?_
    refine gf_RX10_138 rfl dX10_wipe_28 sh_13 ?_
    refine g_istore_n (i := 1) (L' := [.ref 0, .int (M2 13 4)]) dX10_wipe_31 rfl (Nat.le_of_ble_eq_true rfl) rfl rfl ?_
    refine g_aload_n (i := 0) dX10_wipe_32 rfl rfl ?_
    refine gf_RX10_29 rfl dX10_wipe_33 sh_0 ?_
    refine g_iconst (v := (0 : Int32)) dX10_wipe_36 (by decide) ?_
    refine gp_RX10_138 rfl dX10_wipe_37 sh_13 ?_
    refine g_nmM (fun M3 hM3 => ?_); replace h := h M3 hM3
    refine g_iload_n (i := 1) dX10_wipe_40 rfl rfl ?_
    exact g_iret dX10_wipe_41 rfl h
theorem eX10_wipe {κ : gK} {M : MM} {Q : Int32 → MM → Prop} 
    (h : G κ mX10_wipe 0 [.ref 0, .null] [] M Q) : Cl κ mX10_wipe [.ref 0] M Q := g_entry 1 pl_X10_wipe (Nat.le_of_ble_eq_true rfl) (L := [.ref 0, .null]) rfl (g_sub _ (sub_c (Or.inr rfl) (sub_c (Or.inr rfl) sub_n)) h)
