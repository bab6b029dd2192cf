section Make9
theorem dX10_init_0 : decode cX10_init 0 = .ok (.aload_n 0, 1) := by decide +kernel
theorem dX10_init_1 : decode cX10_init 1 = .ok (.invokespecial 3, 3) := by decide +kernel
theorem dX10_init_4 : decode cX10_init 4 = .ok (.aload_n 0, 1) := by decide +kernel
theorem dX10_init_5 : decode cX10_init 5 = .ok (.new 9, 3) := by decide +kernel
theorem dX10_init_8 : decode cX10_init 8 = .ok (.dup, 1) := by decide +kernel
theorem dX10_init_9 : decode cX10_init 9 = .ok (.invokespecial 11, 3) := by decide +kernel
theorem dX10_init_12 : decode cX10_init 12 = .ok (.putfield 12, 3) := by decide +kernel
theorem dX10_init_15 : decode cX10_init 15 = .ok (.aload_n 0, 1) := by decide +kernel
theorem dX10_init_16 : decode cX10_init 16 = .ok (.new 9, 3) := by decide +kernel
theorem dX10_init_19 : decode cX10_init 19 = .ok (.dup, 1) := by decide +kernel
theorem dX10_init_20 : decode cX10_init 20 = .ok (.invokespecial 11, 3) := by decide +kernel
theorem dX10_init_23 : decode cX10_init 23 = .ok (.putfield 16, 3) := by decide +kernel
theorem dX10_init_26 : decode cX10_init 26 = .ok (.aload_n 0, 1) := by decide +kernel
theorem dX10_init_27 : decode cX10_init 27 = .ok (.new 19, 3) := by decide +kernel
theorem dX10_init_30 : decode cX10_init 30 = .ok (.dup, 1) := by decide +kernel
theorem dX10_init_31 : decode cX10_init 31 = .ok (.invokespecial 21, 3) := by decide +kernel
theorem dX10_init_34 : decode cX10_init 34 = .ok (.putfield 22, 3) := by decide +kernel
theorem dX10_init_37 : decode cX10_init 37 = .ok (.aload_n 0, 1) := by decide +kernel
theorem dX10_init_38 : decode cX10_init 38 = .ok (.new 26, 3) := by decide +kernel
theorem dX10_init_41 : decode cX10_init 41 = .ok (.dup, 1) := by decide +kernel
theorem dX10_init_42 : decode cX10_init 42 = .ok (.invokespecial 28, 3) := by decide +kernel
theorem dX10_init_45 : decode cX10_init 45 = .ok (.putfield 29, 3) := by decide +kernel
theorem dX10_init_48 : decode cX10_init 48 = .ok (.aload_n 0, 1) := by decide +kernel
theorem dX10_init_49 : decode cX10_init 49 = .ok (.new 26, 3) := by decide +kernel
theorem dX10_init_52 : decode cX10_init 52 = .ok (.dup, 1) := by decide +kernel
theorem dX10_init_53 : decode cX10_init 53 = .ok (.invokespecial 28, 3) := by decide +kernel
theorem dX10_init_56 : decode cX10_init 56 = .ok (.putfield 33, 3) := by decide +kernel
theorem dX10_init_59 : decode cX10_init 59 = .ok (.aload_n 0, 1) := by decide +kernel
theorem dX10_init_60 : decode cX10_init 60 = .ok (.new 36, 3) := by decide +kernel
theorem dX10_init_63 : decode cX10_init 63 = .ok (.dup, 1) := by decide +kernel
theorem dX10_init_64 : decode cX10_init 64 = .ok (.invokespecial 38, 3) := by decide +kernel
theorem dX10_init_67 : decode cX10_init 67 = .ok (.putfield 39, 3) := by decide +kernel
theorem dX10_init_70 : decode cX10_init 70 = .ok (.aload_n 0, 1) := by decide +kernel
theorem dX10_init_71 : decode cX10_init 71 = .ok (.new 43, 3) := by decide +kernel
theorem dX10_init_74 : decode cX10_init 74 = .ok (.dup, 1) := by decide +kernel
theorem dX10_init_75 : decode cX10_init 75 = .ok (.invokespecial 45, 3) := by decide +kernel
theorem dX10_init_78 : decode cX10_init 78 = .ok (.putfield 46, 3) := by decide +kernel
theorem dX10_init_81 : decode cX10_init 81 = .ok (.aload_n 0, 1) := by decide +kernel
theorem dX10_init_82 : decode cX10_init 82 = .ok (.new 50, 3) := by decide +kernel
theorem dX10_init_85 : decode cX10_init 85 = .ok (.dup, 1) := by decide +kernel
theorem dX10_init_86 : decode cX10_init 86 = .ok (.invokespecial 52, 3) := by decide +kernel
theorem dX10_init_89 : decode cX10_init 89 = .ok (.putfield 53, 3) := by decide +kernel
theorem dX10_init_92 : decode cX10_init 92 = .ok (.aload_n 0, 1) := by decide +kernel
theorem dX10_init_93 : decode cX10_init 93 = .ok (.new 57, 3) := by decide +kernel
theorem dX10_init_96 : decode cX10_init 96 = .ok (.dup, 1) := by decide +kernel
theorem dX10_init_97 : decode cX10_init 97 = .ok (.invokespecial 59, 3) := by decide +kernel
theorem dX10_init_100 : decode cX10_init 100 = .ok (.putfield 60, 3) := by decide +kernel
theorem dX10_init_103 : decode cX10_init 103 = .ok (.aload_n 0, 1) := by decide +kernel
theorem dX10_init_104 : decode cX10_init 104 = .ok (.new 64, 3) := by decide +kernel
theorem dX10_init_107 : decode cX10_init 107 = .ok (.dup, 1) := by decide +kernel
theorem dX10_init_108 : decode cX10_init 108 = .ok (.invokespecial 66, 3) := by decide +kernel
theorem dX10_init_111 : decode cX10_init 111 = .ok (.putfield 67, 3) := by decide +kernel
theorem dX10_init_114 : decode cX10_init 114 = .ok (.aload_n 0, 1) := by decide +kernel
theorem dX10_init_115 : decode cX10_init 115 = .ok (.new 71, 3) := by decide +kernel
theorem dX10_init_118 : decode cX10_init 118 = .ok (.dup, 1) := by decide +kernel
theorem dX10_init_119 : decode cX10_init 119 = .ok (.invokespecial 73, 3) := by decide +kernel
theorem dX10_init_122 : decode cX10_init 122 = .ok (.putfield 74, 3) := by decide +kernel
theorem dX10_init_125 : decode cX10_init 125 = .ok (.aload_n 0, 1) := by decide +kernel
theorem dX10_init_126 : decode cX10_init 126 = .ok (.new 78, 3) := by decide +kernel
theorem dX10_init_129 : decode cX10_init 129 = .ok (.dup, 1) := by decide +kernel
theorem dX10_init_130 : decode cX10_init 130 = .ok (.invokespecial 80, 3) := by decide +kernel
theorem dX10_init_133 : decode cX10_init 133 = .ok (.putfield 81, 3) := by decide +kernel
theorem dX10_init_136 : decode cX10_init 136 = .ok (.aload_n 0, 1) := by decide +kernel
theorem dX10_init_137 : decode cX10_init 137 = .ok (.iconst (-1), 1) := by decide +kernel
theorem dX10_init_138 : decode cX10_init 138 = .ok (.putfield 85, 3) := by decide +kernel
theorem dX10_init_141 : decode cX10_init 141 = .ok (.aload_n 0, 1) := by decide +kernel
theorem dX10_init_142 : decode cX10_init 142 = .ok (.iconst 0, 1) := by decide +kernel
theorem dX10_init_143 : decode cX10_init 143 = .ok (.putfield 89, 3) := by decide +kernel
theorem dX10_init_146 : decode cX10_init 146 = .ok (.return_, 1) := by decide +kernel
def nlX10 : gNl := [(RX10, 11, yX9_init), (RX10, 21, yX5_init), (RX10, 28, yX8_init), (RX10, 52, yX1_init), (RX10, 59, yX7_init), (RX10, 66, yX6_init), (RX10, 73, yX3_init), (RX10, 80, yX0_init), (RX4, 24, yX8_init), (RX2, 25, yX8_init)]
def rmX10 : Room := { frames := 3, cells := 118, slots := 4189, locals := 140 }
def f10 (u : Nat → Nat) (k : Nat) : List Value := (List.range 14).map (fun i => if i < 12 then (if i < k then .ref (u (r10L.getD i 0)) else .null) else .int 0)
theorem f10_len (u : Nat → Nat) (k : Nat) : (f10 u k).length = 14 := by simp [f10]
theorem f10_set {u u' : Nat → Nat} {k c0 q : Nat} (hk : k < 12) (hc : r10L.getD k 0 = c0) (hu : ∀ d, d < c0 → u' d = u d) (hlt : ∀ i, i < k → r10L.getD i 0 < c0) (hq : u' c0 = q) : (f10 u k).set k (.ref q) = f10 u' (k + 1) := by
  apply List.ext_getElem?
  intro j
  rcases Nat.lt_or_ge j 14 with hj | hj
  · have e2 : (f10 u' (k + 1))[j]? = some (if j < 12 then (if j < k + 1 then .ref (u' (r10L.getD j 0)) else .null) else .int 0) := by
      simp only [f10, List.getElem?_map, List.getElem?_range hj, Option.map_some]
    rw [e2]
    by_cases e : j = k
    · subst e
      rw [List.getElem?_set_self (by rw [f10_len]; omega), if_pos hk, if_pos (by omega), hc, hq]
    · rw [List.getElem?_set_ne (Ne.symm e)]
      simp only [f10, List.getElem?_map, List.getElem?_range hj, Option.map_some]
      congr 1
      by_cases h12 : j < 12
      · rw [if_pos h12, if_pos h12]
        by_cases hjk : j < k
        · rw [if_pos hjk, if_pos (by omega), hu _ (hlt j hjk)]
        · rw [if_neg hjk, if_neg (by omega)]
      · rw [if_neg h12, if_neg h12]
  · rw [List.getElem?_eq_none (by rw [List.length_set, f10_len]; omega), List.getElem?_eq_none (by rw [f10_len]; omega)]
theorem mk10 {τ : gT} {u u1 : Nat → Nat} {h0 k K c0 n q : Nat} (hk : k < 12) (hc : r10L.getD k 0 = c0) (hlt : ∀ i, i < k → r10L.getD i 0 < c0) (hK : 1 + K = c0) (h1 : clB 1 c0 1 K = true) (h2 : clB c0 (c0 + n) c0 n = true) (hq : u1 c0 = q) : (((h0, (.inr (10, f10 u k) : va_E)) :: blk τ u 1 K) ++ blk τ u1 c0 n).set 0 (h0, .inr (10, (f10 u k).set k (.ref q))) = (h0, .inr (10, f10 (fun d => if d < c0 then u d else u1 d) (k + 1))) :: blk τ (fun d => if d < c0 then u d else u1 d) 1 (K + n) := by
  have hl : ∀ d, d < c0 → (fun d => if d < c0 then u d else u1 d) d = u d := fun d h => if_pos h
  have hr : ∀ d, c0 ≤ d → (fun d => if d < c0 then u d else u1 d) d = u1 d := fun d h => if_neg (by omega)
  rw [f10_set (u' := fun d => if d < c0 then u d else u1 d) hk hc hl hlt ((hr _ (Nat.le_refl _)).trans hq), ← blk_glue (τ := τ) (u := u) (u1 := u1) hK h1 h2 hl hr]
  rfl
theorem end10 {D : va_G} {τ : gT} {A : Nat → Prop} {h0 : Nat} (u : Nat → Nat) (t : State) (hK : va_K D classes (tYs τ) t) (hP : va_P D classes ((h0, .inr (10, ((f10 u 12).set 12 (.int (-1))).set 13 (.int 0))) :: blk τ u 1 118) t.heap) (hD : va_D A ((h0, .inr (10, ((f10 u 12).set 12 (.int (-1))).set 13 (.int 0))) :: blk τ u 1 118)) : PbM D τ A 0 119 h0 t := by
  have e : ((h0, (.inr (10, ((f10 u 12).set 12 (.int (-1))).set 13 (.int 0)) : va_E)) :: blk τ u 1 118) = blk τ (fun d => if d = 0 then h0 else u d) 0 119 := by
    rw [blk_one τ _ 0 118, blk_congr (τ := τ) (u := u) (u' := fun d => if d = 0 then h0 else u d) (lo := 1) (hi := 119) (c0 := 1) (n := 118) (by decide +kernel) (Nat.le_refl _) (Nat.le_refl _) (fun d h _ => (if_neg (by omega)).symm)]
    rfl
  rw [e] at hP hD
  exact ⟨_, rfl, hK, hP, hD⟩
theorem ct_X10 {D : va_G} {τ : gT} : Ct D τ (Zn nlX10) mX10_init rmX10 118 4189 10 [.null, .null, .null, .null, .null, .null, .null, .null, .null, .null, .null, .null, .int 0, .int 0] 0 119 := by
  intro l h0 sz
  have hA : ∀ q, sz ≤ q → (va_A [(h0, .inr (10, [.null, .null, .null, .null, .null, .null, .null, .null, .null, .null, .null, .null, .int 0, .int 0]))] sz) q := fun q h => Or.inr h
  refine k_entry (n0 := 0) (L := [.ref h0]) (by decide +kernel) rfl rfl (by decide) rfl ?_ l
  generalize (va_A [(h0, .inr (10, [.null, .null, .null, .null, .null, .null, .null, .null, .null, .null, .null, .null, .int 0, .int 0]))] sz) = A at hA ⊢
  refine k_aload dX10_init_0 rfl rfl ?_
  refine k_obj dX10_init_1 (tbG_t (List.mem_of_getElem? (i := 21) (by decide +kernel)) (by decide +kernel)) (by decide) (by decide) ?_
  suffices hh : ∀ u : Nat → Nat, KJ D A sz (Zn nlX10) mX10_init rmX10 118 4189 (PbM D τ A 0 119 h0) 4 [.ref h0] [] (tYs τ) ((h0, .inr (10, f10 u 0)) :: blk τ u 1 0) 0 0 by exact hh (fun _ => 0)
  intro u
  refine k_aload dX10_init_4 rfl rfl ?_
  refine k_new (ci := 9) (N := 8) (C := RX9) (T := TX9) (fs := [.null, .null, .null, .null, .int 0, .int 0, .int 0, .int 0]) hA dX10_init_5 rfl inG9 tyX9 tyX9_ok (tbG_t (List.mem_of_getElem? (i := 24) (by decide +kernel)) (by decide +kernel)) (tbG_t (List.mem_of_getElem? (i := 25) (by decide +kernel)) (by decide +kernel)) (tbG_t (List.mem_of_getElem? (i := 2) (by decide +kernel)) (by decide +kernel)) (fun k hk => by rcases k with _ | _ | _ | _ | _ | _ | _ | _ | k <;> first | rfl | omega) (by decide) (by decide) (fun q => ?_)
  refine k_dup rfl dX10_init_8 ?_
  refine k_callN (μ' := mX9_init) (nl' := []) hA (ct_X9 1 (fun _ _ _ _ _ => rfl)) dX10_init_9 (by decide +kernel) (fun _ h => by cases h) (tbG_t (List.mem_of_getElem? (i := 28) (by decide +kernel)) (by decide +kernel)) rfl (tbG_t (List.mem_of_getElem? (i := 2) (by decide +kernel)) (by decide +kernel)) (tbG_t (List.mem_of_getElem? (i := 27) (by decide +kernel)) (by decide +kernel)) rfl okp_X9_init rfl rfl ⟨by decide, by decide⟩ (by show (2 : Nat) ≤ 8; omega) (by decide) (by decide) (fun u1 hu1 => ?_)
  refine k_putF (a := h0) (ci := 10) (k := 0) (q0 := 0) (N := 14) (C := RX10) (T := TX10) (ty := tyX10 0) (v := .ref q) dX10_init_12 rfl rfl inG10 tyX10 tyX10_ok nmX10 (by decide) (tbG_t (List.mem_of_getElem? (i := 262) (by decide +kernel)) (by decide +kernel)) rfl rfl (tyX10_ok 0 (by decide)) rfl rfl (by rw [f10_len]; omega) (mk10 (by decide) rfl (by decide +kernel) rfl (by decide +kernel) (by decide +kernel) hu1) ?_
  generalize (fun d => if d < 1 then u d else u1 d) = u2
  clear hu1
  clear u1
  clear u
  obtain ⟨u, rfl⟩ : ∃ z, z = u2 := ⟨_, rfl⟩
  refine k_aload dX10_init_15 rfl rfl ?_
  refine k_new (ci := 9) (N := 8) (C := RX9) (T := TX9) (fs := [.null, .null, .null, .null, .int 0, .int 0, .int 0, .int 0]) hA dX10_init_16 rfl inG9 tyX9 tyX9_ok (tbG_t (List.mem_of_getElem? (i := 24) (by decide +kernel)) (by decide +kernel)) (tbG_t (List.mem_of_getElem? (i := 25) (by decide +kernel)) (by decide +kernel)) (tbG_t (List.mem_of_getElem? (i := 2) (by decide +kernel)) (by decide +kernel)) (fun k hk => by rcases k with _ | _ | _ | _ | _ | _ | _ | _ | k <;> first | rfl | omega) (by decide) (by decide) (fun q => ?_)
  refine k_dup rfl dX10_init_19 ?_
  refine k_callN (μ' := mX9_init) (nl' := []) hA (ct_X9 6 (fun _ _ _ _ _ => rfl)) dX10_init_20 (by decide +kernel) (fun _ h => by cases h) (tbG_t (List.mem_of_getElem? (i := 28) (by decide +kernel)) (by decide +kernel)) rfl (tbG_t (List.mem_of_getElem? (i := 2) (by decide +kernel)) (by decide +kernel)) (tbG_t (List.mem_of_getElem? (i := 27) (by decide +kernel)) (by decide +kernel)) rfl okp_X9_init rfl rfl ⟨by decide, by decide⟩ (by show (2 : Nat) ≤ 8; omega) (by decide) (by decide) (fun u1 hu1 => ?_)
  refine k_putF (a := h0) (ci := 10) (k := 1) (q0 := 0) (N := 14) (C := RX10) (T := TX10) (ty := tyX10 1) (v := .ref q) dX10_init_23 rfl rfl inG10 tyX10 tyX10_ok nmX10 (by decide) (tbG_t (List.mem_of_getElem? (i := 263) (by decide +kernel)) (by decide +kernel)) rfl rfl (tyX10_ok 1 (by decide)) rfl rfl (by rw [f10_len]; omega) (mk10 (by decide) rfl (by decide +kernel) rfl (by decide +kernel) (by decide +kernel) hu1) ?_
  generalize (fun d => if d < 6 then u d else u1 d) = u2
  clear hu1
  clear u1
  clear u
  obtain ⟨u, rfl⟩ : ∃ z, z = u2 := ⟨_, rfl⟩
  refine k_aload dX10_init_26 rfl rfl ?_
  refine k_new (ci := 5) (N := 5) (C := RX5) (T := TX5) (fs := [.null, .int 0, .int 0, .int 0, .int 0]) hA dX10_init_27 rfl inG5 tyX5 tyX5_ok (tbG_t (List.mem_of_getElem? (i := 72) (by decide +kernel)) (by decide +kernel)) (tbG_t (List.mem_of_getElem? (i := 73) (by decide +kernel)) (by decide +kernel)) (tbG_t (List.mem_of_getElem? (i := 3) (by decide +kernel)) (by decide +kernel)) (fun k hk => by rcases k with _ | _ | _ | _ | _ | k <;> first | rfl | omega) (by decide) (by decide) (fun q => ?_)
  refine k_dup rfl dX10_init_30 ?_
  refine k_callN (μ' := mX5_init) (nl' := []) hA (ct_X5 11 (fun _ _ => rfl)) dX10_init_31 (by decide +kernel) (fun _ h => by cases h) (tbG_t (List.mem_of_getElem? (i := 76) (by decide +kernel)) (by decide +kernel)) rfl (tbG_t (List.mem_of_getElem? (i := 3) (by decide +kernel)) (by decide +kernel)) (tbG_t (List.mem_of_getElem? (i := 75) (by decide +kernel)) (by decide +kernel)) rfl okp_X5_init rfl rfl ⟨by decide, by decide⟩ (by show (2 : Nat) ≤ 8; omega) (by decide) (by decide) (fun u1 hu1 => ?_)
  refine k_putF (a := h0) (ci := 10) (k := 2) (q0 := 0) (N := 14) (C := RX10) (T := TX10) (ty := tyX10 2) (v := .ref q) dX10_init_34 rfl rfl inG10 tyX10 tyX10_ok nmX10 (by decide) (tbG_t (List.mem_of_getElem? (i := 264) (by decide +kernel)) (by decide +kernel)) rfl rfl (tyX10_ok 2 (by decide)) rfl rfl (by rw [f10_len]; omega) (mk10 (by decide) rfl (by decide +kernel) rfl (by decide +kernel) (by decide +kernel) hu1) ?_
  generalize (fun d => if d < 11 then u d else u1 d) = u2
  clear hu1
  clear u1
  clear u
  obtain ⟨u, rfl⟩ : ∃ z, z = u2 := ⟨_, rfl⟩
  refine k_aload dX10_init_37 rfl rfl ?_
  refine k_new (ci := 8) (N := 5) (C := RX8) (T := TX8) (fs := [.null, .null, .null, .int 0, .int 0]) hA dX10_init_38 rfl inG8 tyX8 tyX8_ok (tbG_t (List.mem_of_getElem? (i := 96) (by decide +kernel)) (by decide +kernel)) (tbG_t (List.mem_of_getElem? (i := 97) (by decide +kernel)) (by decide +kernel)) (tbG_t (List.mem_of_getElem? (i := 4) (by decide +kernel)) (by decide +kernel)) (fun k hk => by rcases k with _ | _ | _ | _ | _ | k <;> first | rfl | omega) (by decide) (by decide) (fun q => ?_)
  refine k_dup rfl dX10_init_41 ?_
  refine k_callN (μ' := mX8_init) (nl' := []) hA (ct_X8 13 (fun _ _ _ _ => rfl)) dX10_init_42 (by decide +kernel) (fun _ h => by cases h) (tbG_t (List.mem_of_getElem? (i := 100) (by decide +kernel)) (by decide +kernel)) rfl (tbG_t (List.mem_of_getElem? (i := 4) (by decide +kernel)) (by decide +kernel)) (tbG_t (List.mem_of_getElem? (i := 99) (by decide +kernel)) (by decide +kernel)) rfl okp_X8_init rfl rfl ⟨by decide, by decide⟩ (by show (2 : Nat) ≤ 8; omega) (by decide) (by decide) (fun u1 hu1 => ?_)
  refine k_putF (a := h0) (ci := 10) (k := 3) (q0 := 0) (N := 14) (C := RX10) (T := TX10) (ty := tyX10 3) (v := .ref q) dX10_init_45 rfl rfl inG10 tyX10 tyX10_ok nmX10 (by decide) (tbG_t (List.mem_of_getElem? (i := 265) (by decide +kernel)) (by decide +kernel)) rfl rfl (tyX10_ok 3 (by decide)) rfl rfl (by rw [f10_len]; omega) (mk10 (by decide) rfl (by decide +kernel) rfl (by decide +kernel) (by decide +kernel) hu1) ?_
  generalize (fun d => if d < 13 then u d else u1 d) = u2
  clear hu1
  clear u1
  clear u
  obtain ⟨u, rfl⟩ : ∃ z, z = u2 := ⟨_, rfl⟩
  refine k_aload dX10_init_48 rfl rfl ?_
  refine k_new (ci := 8) (N := 5) (C := RX8) (T := TX8) (fs := [.null, .null, .null, .int 0, .int 0]) hA dX10_init_49 rfl inG8 tyX8 tyX8_ok (tbG_t (List.mem_of_getElem? (i := 96) (by decide +kernel)) (by decide +kernel)) (tbG_t (List.mem_of_getElem? (i := 97) (by decide +kernel)) (by decide +kernel)) (tbG_t (List.mem_of_getElem? (i := 4) (by decide +kernel)) (by decide +kernel)) (fun k hk => by rcases k with _ | _ | _ | _ | _ | k <;> first | rfl | omega) (by decide) (by decide) (fun q => ?_)
  refine k_dup rfl dX10_init_52 ?_
  refine k_callN (μ' := mX8_init) (nl' := []) hA (ct_X8 17 (fun _ _ _ _ => rfl)) dX10_init_53 (by decide +kernel) (fun _ h => by cases h) (tbG_t (List.mem_of_getElem? (i := 100) (by decide +kernel)) (by decide +kernel)) rfl (tbG_t (List.mem_of_getElem? (i := 4) (by decide +kernel)) (by decide +kernel)) (tbG_t (List.mem_of_getElem? (i := 99) (by decide +kernel)) (by decide +kernel)) rfl okp_X8_init rfl rfl ⟨by decide, by decide⟩ (by show (2 : Nat) ≤ 8; omega) (by decide) (by decide) (fun u1 hu1 => ?_)
  refine k_putF (a := h0) (ci := 10) (k := 4) (q0 := 0) (N := 14) (C := RX10) (T := TX10) (ty := tyX10 4) (v := .ref q) dX10_init_56 rfl rfl inG10 tyX10 tyX10_ok nmX10 (by decide) (tbG_t (List.mem_of_getElem? (i := 266) (by decide +kernel)) (by decide +kernel)) rfl rfl (tyX10_ok 4 (by decide)) rfl rfl (by rw [f10_len]; omega) (mk10 (by decide) rfl (by decide +kernel) rfl (by decide +kernel) (by decide +kernel) hu1) ?_
  generalize (fun d => if d < 17 then u d else u1 d) = u2
  clear hu1
  clear u1
  clear u
  obtain ⟨u, rfl⟩ : ∃ z, z = u2 := ⟨_, rfl⟩
  refine k_aload dX10_init_59 rfl rfl ?_
  refine k_new (ci := 4) (N := 3) (C := RX4) (T := TX4) (fs := [.null, .int 0, .int 0]) hA dX10_init_60 rfl inG4 tyX4 tyX4_ok (tbG_t (List.mem_of_getElem? (i := 127) (by decide +kernel)) (by decide +kernel)) (tbG_t (List.mem_of_getElem? (i := 128) (by decide +kernel)) (by decide +kernel)) (tbG_t (List.mem_of_getElem? (i := 5) (by decide +kernel)) (by decide +kernel)) (fun k hk => by rcases k with _ | _ | _ | k <;> first | rfl | omega) (by decide) (by decide) (fun q => ?_)
  refine k_dup rfl dX10_init_63 ?_
  refine k_callI (μ' := mX4_init) (nl' := nlX4) hA ct_X4 dX10_init_64 (tbG_t (List.mem_of_getElem? (i := 129) (by decide +kernel)) (by decide +kernel)) (by decide +kernel) (tbG_t (List.mem_of_getElem? (i := 131) (by decide +kernel)) (by decide +kernel)) rfl (tbG_t (List.mem_of_getElem? (i := 5) (by decide +kernel)) (by decide +kernel)) (tbG_t (List.mem_of_getElem? (i := 130) (by decide +kernel)) (by decide +kernel)) rfl okp_X4_init rfl rfl ⟨by decide, by decide⟩ (by show (2 : Nat) ≤ 8; omega) (by decide) (by decide) (fun u1 hu1 => ?_)
  refine k_putF (a := h0) (ci := 10) (k := 5) (q0 := 0) (N := 14) (C := RX10) (T := TX10) (ty := tyX10 5) (v := .ref q) dX10_init_67 rfl rfl inG10 tyX10 tyX10_ok nmX10 (by decide) (tbG_t (List.mem_of_getElem? (i := 267) (by decide +kernel)) (by decide +kernel)) rfl rfl (tyX10_ok 5 (by decide)) rfl rfl (by rw [f10_len]; omega) (mk10 (by decide) rfl (by decide +kernel) rfl (by decide +kernel) (by decide +kernel) hu1) ?_
  generalize (fun d => if d < 21 then u d else u1 d) = u2
  clear hu1
  clear u1
  clear u
  obtain ⟨u, rfl⟩ : ∃ z, z = u2 := ⟨_, rfl⟩
  refine k_aload dX10_init_70 rfl rfl ?_
  refine k_new (ci := 2) (N := 3) (C := RX2) (T := TX2) (fs := [.null, .null, .null]) hA dX10_init_71 rfl inG2 tyX2 tyX2_ok (tbG_t (List.mem_of_getElem? (i := 147) (by decide +kernel)) (by decide +kernel)) (tbG_t (List.mem_of_getElem? (i := 148) (by decide +kernel)) (by decide +kernel)) (tbG_t (List.mem_of_getElem? (i := 6) (by decide +kernel)) (by decide +kernel)) (fun k hk => by rcases k with _ | _ | _ | k <;> first | rfl | omega) (by decide) (by decide) (fun q => ?_)
  refine k_dup rfl dX10_init_74 ?_
  refine k_callI (μ' := mX2_init) (nl' := nlX2) hA ct_X2 dX10_init_75 (tbG_t (List.mem_of_getElem? (i := 149) (by decide +kernel)) (by decide +kernel)) (by decide +kernel) (tbG_t (List.mem_of_getElem? (i := 151) (by decide +kernel)) (by decide +kernel)) rfl (tbG_t (List.mem_of_getElem? (i := 6) (by decide +kernel)) (by decide +kernel)) (tbG_t (List.mem_of_getElem? (i := 150) (by decide +kernel)) (by decide +kernel)) rfl okp_X2_init rfl rfl ⟨by decide, by decide⟩ (by show (2 : Nat) ≤ 8; omega) (by decide) (by decide) (fun u1 hu1 => ?_)
  refine k_putF (a := h0) (ci := 10) (k := 6) (q0 := 0) (N := 14) (C := RX10) (T := TX10) (ty := tyX10 6) (v := .ref q) dX10_init_78 rfl rfl inG10 tyX10 tyX10_ok nmX10 (by decide) (tbG_t (List.mem_of_getElem? (i := 268) (by decide +kernel)) (by decide +kernel)) rfl rfl (tyX10_ok 6 (by decide)) rfl rfl (by rw [f10_len]; omega) (mk10 (by decide) rfl (by decide +kernel) rfl (by decide +kernel) (by decide +kernel) hu1) ?_
  generalize (fun d => if d < 87 then u d else u1 d) = u2
  clear hu1
  clear u1
  clear u
  obtain ⟨u, rfl⟩ : ∃ z, z = u2 := ⟨_, rfl⟩
  refine k_aload dX10_init_81 rfl rfl ?_
  refine k_new (ci := 1) (N := 2) (C := RX1) (T := TX1) (fs := [.null, .null]) hA dX10_init_82 rfl inG1 tyX1 tyX1_ok (tbG_t (List.mem_of_getElem? (i := 169) (by decide +kernel)) (by decide +kernel)) (tbG_t (List.mem_of_getElem? (i := 170) (by decide +kernel)) (by decide +kernel)) (tbG_t (List.mem_of_getElem? (i := 7) (by decide +kernel)) (by decide +kernel)) (fun k hk => by rcases k with _ | _ | k <;> first | rfl | omega) (by decide) (by decide) (fun q => ?_)
  refine k_dup rfl dX10_init_85 ?_
  refine k_callN (μ' := mX1_init) (nl' := []) hA (ct_X1 99 (fun _ _ _ => rfl)) dX10_init_86 (by decide +kernel) (fun _ h => by cases h) (tbG_t (List.mem_of_getElem? (i := 173) (by decide +kernel)) (by decide +kernel)) rfl (tbG_t (List.mem_of_getElem? (i := 7) (by decide +kernel)) (by decide +kernel)) (tbG_t (List.mem_of_getElem? (i := 172) (by decide +kernel)) (by decide +kernel)) rfl okp_X1_init rfl rfl ⟨by decide, by decide⟩ (by show (2 : Nat) ≤ 8; omega) (by decide) (by decide) (fun u1 hu1 => ?_)
  refine k_putF (a := h0) (ci := 10) (k := 7) (q0 := 0) (N := 14) (C := RX10) (T := TX10) (ty := tyX10 7) (v := .ref q) dX10_init_89 rfl rfl inG10 tyX10 tyX10_ok nmX10 (by decide) (tbG_t (List.mem_of_getElem? (i := 269) (by decide +kernel)) (by decide +kernel)) rfl rfl (tyX10_ok 7 (by decide)) rfl rfl (by rw [f10_len]; omega) (mk10 (by decide) rfl (by decide +kernel) rfl (by decide +kernel) (by decide +kernel) hu1) ?_
  generalize (fun d => if d < 99 then u d else u1 d) = u2
  clear hu1
  clear u1
  clear u
  obtain ⟨u, rfl⟩ : ∃ z, z = u2 := ⟨_, rfl⟩
  refine k_aload dX10_init_92 rfl rfl ?_
  refine k_new (ci := 7) (N := 2) (C := RX7) (T := TX7) (fs := [.null, .null]) hA dX10_init_93 rfl inG7 tyX7 tyX7_ok (tbG_t (List.mem_of_getElem? (i := 182) (by decide +kernel)) (by decide +kernel)) (tbG_t (List.mem_of_getElem? (i := 183) (by decide +kernel)) (by decide +kernel)) (tbG_t (List.mem_of_getElem? (i := 8) (by decide +kernel)) (by decide +kernel)) (fun k hk => by rcases k with _ | _ | k <;> first | rfl | omega) (by decide) (by decide) (fun q => ?_)
  refine k_dup rfl dX10_init_96 ?_
  refine k_callN (μ' := mX7_init) (nl' := []) hA (ct_X7 102 (fun _ _ _ => rfl)) dX10_init_97 (by decide +kernel) (fun _ h => by cases h) (tbG_t (List.mem_of_getElem? (i := 186) (by decide +kernel)) (by decide +kernel)) rfl (tbG_t (List.mem_of_getElem? (i := 8) (by decide +kernel)) (by decide +kernel)) (tbG_t (List.mem_of_getElem? (i := 185) (by decide +kernel)) (by decide +kernel)) rfl okp_X7_init rfl rfl ⟨by decide, by decide⟩ (by show (2 : Nat) ≤ 8; omega) (by decide) (by decide) (fun u1 hu1 => ?_)
  refine k_putF (a := h0) (ci := 10) (k := 8) (q0 := 0) (N := 14) (C := RX10) (T := TX10) (ty := tyX10 8) (v := .ref q) dX10_init_100 rfl rfl inG10 tyX10 tyX10_ok nmX10 (by decide) (tbG_t (List.mem_of_getElem? (i := 270) (by decide +kernel)) (by decide +kernel)) rfl rfl (tyX10_ok 8 (by decide)) rfl rfl (by rw [f10_len]; omega) (mk10 (by decide) rfl (by decide +kernel) rfl (by decide +kernel) (by decide +kernel) hu1) ?_
  generalize (fun d => if d < 102 then u d else u1 d) = u2
  clear hu1
  clear u1
  clear u
  obtain ⟨u, rfl⟩ : ∃ z, z = u2 := ⟨_, rfl⟩
  refine k_aload dX10_init_103 rfl rfl ?_
  refine k_new (ci := 6) (N := 4) (C := RX6) (T := TX6) (fs := [.null, .null, .null, .int 0]) hA dX10_init_104 rfl inG6 tyX6 tyX6_ok (tbG_t (List.mem_of_getElem? (i := 196) (by decide +kernel)) (by decide +kernel)) (tbG_t (List.mem_of_getElem? (i := 197) (by decide +kernel)) (by decide +kernel)) (tbG_t (List.mem_of_getElem? (i := 9) (by decide +kernel)) (by decide +kernel)) (fun k hk => by rcases k with _ | _ | _ | _ | k <;> first | rfl | omega) (by decide) (by decide) (fun q => ?_)
  refine k_dup rfl dX10_init_107 ?_
  refine k_callN (μ' := mX6_init) (nl' := []) hA (ct_X6 105 (fun _ _ _ _ => rfl)) dX10_init_108 (by decide +kernel) (fun _ h => by cases h) (tbG_t (List.mem_of_getElem? (i := 200) (by decide +kernel)) (by decide +kernel)) rfl (tbG_t (List.mem_of_getElem? (i := 9) (by decide +kernel)) (by decide +kernel)) (tbG_t (List.mem_of_getElem? (i := 199) (by decide +kernel)) (by decide +kernel)) rfl okp_X6_init rfl rfl ⟨by decide, by decide⟩ (by show (2 : Nat) ≤ 8; omega) (by decide) (by decide) (fun u1 hu1 => ?_)
  refine k_putF (a := h0) (ci := 10) (k := 9) (q0 := 0) (N := 14) (C := RX10) (T := TX10) (ty := tyX10 9) (v := .ref q) dX10_init_111 rfl rfl inG10 tyX10 tyX10_ok nmX10 (by decide) (tbG_t (List.mem_of_getElem? (i := 271) (by decide +kernel)) (by decide +kernel)) rfl rfl (tyX10_ok 9 (by decide)) rfl rfl (by rw [f10_len]; omega) (mk10 (by decide) rfl (by decide +kernel) rfl (by decide +kernel) (by decide +kernel) hu1) ?_
  generalize (fun d => if d < 105 then u d else u1 d) = u2
  clear hu1
  clear u1
  clear u
  obtain ⟨u, rfl⟩ : ∃ z, z = u2 := ⟨_, rfl⟩
  refine k_aload dX10_init_114 rfl rfl ?_
  refine k_new (ci := 3) (N := 6) (C := RX3) (T := TX3) (fs := [.null, .null, .null, .null, .null, .int 0]) hA dX10_init_115 rfl inG3 tyX3 tyX3_ok (tbG_t (List.mem_of_getElem? (i := 216) (by decide +kernel)) (by decide +kernel)) (tbG_t (List.mem_of_getElem? (i := 217) (by decide +kernel)) (by decide +kernel)) (tbG_t (List.mem_of_getElem? (i := 10) (by decide +kernel)) (by decide +kernel)) (fun k hk => by rcases k with _ | _ | _ | _ | _ | _ | k <;> first | rfl | omega) (by decide) (by decide) (fun q => ?_)
  refine k_dup rfl dX10_init_118 ?_
  refine k_callN (μ' := mX3_init) (nl' := []) hA (ct_X3 109 (fun _ _ _ _ _ _ => rfl)) dX10_init_119 (by decide +kernel) (fun _ h => by cases h) (tbG_t (List.mem_of_getElem? (i := 220) (by decide +kernel)) (by decide +kernel)) rfl (tbG_t (List.mem_of_getElem? (i := 10) (by decide +kernel)) (by decide +kernel)) (tbG_t (List.mem_of_getElem? (i := 219) (by decide +kernel)) (by decide +kernel)) rfl okp_X3_init rfl rfl ⟨by decide, by decide⟩ (by show (2 : Nat) ≤ 8; omega) (by decide) (by decide) (fun u1 hu1 => ?_)
  refine k_putF (a := h0) (ci := 10) (k := 10) (q0 := 0) (N := 14) (C := RX10) (T := TX10) (ty := tyX10 10) (v := .ref q) dX10_init_122 rfl rfl inG10 tyX10 tyX10_ok nmX10 (by decide) (tbG_t (List.mem_of_getElem? (i := 272) (by decide +kernel)) (by decide +kernel)) rfl rfl (tyX10_ok 10 (by decide)) rfl rfl (by rw [f10_len]; omega) (mk10 (by decide) rfl (by decide +kernel) rfl (by decide +kernel) (by decide +kernel) hu1) ?_
  generalize (fun d => if d < 109 then u d else u1 d) = u2
  clear hu1
  clear u1
  clear u
  obtain ⟨u, rfl⟩ : ∃ z, z = u2 := ⟨_, rfl⟩
  refine k_aload dX10_init_125 rfl rfl ?_
  refine k_new (ci := 0) (N := 4) (C := RX0) (T := TX0) (fs := [.null, .null, .null, .int 0]) hA dX10_init_126 rfl inG0 tyX0 tyX0_ok (tbG_t (List.mem_of_getElem? (i := 242) (by decide +kernel)) (by decide +kernel)) (tbG_t (List.mem_of_getElem? (i := 243) (by decide +kernel)) (by decide +kernel)) (tbG_t (List.mem_of_getElem? (i := 11) (by decide +kernel)) (by decide +kernel)) (fun k hk => by rcases k with _ | _ | _ | _ | k <;> first | rfl | omega) (by decide) (by decide) (fun q => ?_)
  refine k_dup rfl dX10_init_129 ?_
  refine k_callN (μ' := mX0_init) (nl' := []) hA (ct_X0 115 (fun _ _ _ _ => rfl)) dX10_init_130 (by decide +kernel) (fun _ h => by cases h) (tbG_t (List.mem_of_getElem? (i := 246) (by decide +kernel)) (by decide +kernel)) rfl (tbG_t (List.mem_of_getElem? (i := 11) (by decide +kernel)) (by decide +kernel)) (tbG_t (List.mem_of_getElem? (i := 245) (by decide +kernel)) (by decide +kernel)) rfl okp_X0_init rfl rfl ⟨by decide, by decide⟩ (by show (2 : Nat) ≤ 8; omega) (by decide) (by decide) (fun u1 hu1 => ?_)
  refine k_putF (a := h0) (ci := 10) (k := 11) (q0 := 0) (N := 14) (C := RX10) (T := TX10) (ty := tyX10 11) (v := .ref q) dX10_init_133 rfl rfl inG10 tyX10 tyX10_ok nmX10 (by decide) (tbG_t (List.mem_of_getElem? (i := 273) (by decide +kernel)) (by decide +kernel)) rfl rfl (tyX10_ok 11 (by decide)) rfl rfl (by rw [f10_len]; omega) (mk10 (by decide) rfl (by decide +kernel) rfl (by decide +kernel) (by decide +kernel) hu1) ?_
  generalize (fun d => if d < 115 then u d else u1 d) = u2
  clear hu1
  clear u1
  clear u
  obtain ⟨u, rfl⟩ : ∃ z, z = u2 := ⟨_, rfl⟩
  refine k_aload dX10_init_136 rfl rfl ?_
  refine k_iconst (v := -1) dX10_init_137 rfl ?_
  refine k_put (a := h0) (ci := 10) (k := 12) (q0 := 0) (N := 14) (C := RX10) (T := TX10) (ty := tyX10 12) (v := .int (-1)) dX10_init_138 rfl rfl inG10 tyX10 tyX10_ok nmX10 (by decide) (tbG_t (List.mem_of_getElem? (i := 274) (by decide +kernel)) (by decide +kernel)) rfl (tyX10_ok 12 (by decide)) rfl rfl (by simp [f10_len]) rfl ?_
  refine k_aload dX10_init_141 rfl rfl ?_
  refine k_iconst (v := 0) dX10_init_142 rfl ?_
  refine k_put (a := h0) (ci := 10) (k := 13) (q0 := 0) (N := 14) (C := RX10) (T := TX10) (ty := tyX10 13) (v := .int (0)) dX10_init_143 rfl rfl inG10 tyX10 tyX10_ok nmX10 (by decide) (tbG_t (List.mem_of_getElem? (i := 275) (by decide +kernel)) (by decide +kernel)) rfl (tyX10_ok 13 (by decide)) rfl rfl (by simp [f10_len]) rfl ?_
  exact k_vret dX10_init_146 rfl rfl (fun t hK hP hD => end10 u t hK hP hD)
end Make9
