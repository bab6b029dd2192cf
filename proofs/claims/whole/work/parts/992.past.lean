section Make8
theorem eT_o {τ : gT} {u : Nat → Nat} {c ci : Nat} (h : shp c = (0, ci)) : eT τ u c = .inr (ci, (List.range (nfL.getD ci 0)).map (fldT u ci c)) := by
  unfold eT; rw [h]; rfl
theorem eT_i {τ : gT} {u : Nat → Nat} {c n : Nat} (h : shp c = (1, n)) : eT τ u c = .inl (τ.1, n, .inl (M0 c)) := by
  unfold eT; rw [h]; rfl
theorem blkX8 {τ : gT} {c0 : Nat} (h0 : shp c0 = (0, 8)) (h1 : shp (c0 + 1) = (1, 8)) (h2 : shp (c0 + 2) = (1, 8)) (h3 : shp (c0 + 3) = (1, 8)) (hlo : 11 < c0) (hhi : c0 + 3 < 119) (x a b c : Nat) : blk τ (fun d => [x, a, b, c].getD (d - c0) 0) c0 4 = [(x, .inr (8, [.ref a, .ref b, .ref c, .int 0, .int 0])), (a, .inl (τ.1, 8, .inl (fun _ => 0))), (b, .inl (τ.1, 8, .inl (fun _ => 0))), (c, .inl (τ.1, 8, .inl (fun _ => 0)))] := by
  have hz : ∀ i, i < 4 → M0 (c0 + i) = fun _ => 0 := fun i hi => M0_z (by omega) (by omega) (by omega)
  generalize hu : (fun d => [x, a, b, c].getD (d - c0) 0) = u
  have u0 : u c0 = x := by rw [← hu]; simp
  have u1 : u (c0 + 1) = a := by rw [← hu]; simp
  have u2 : u (c0 + 2) = b := by rw [← hu]; simp
  have u3 : u (c0 + 3) = c := by rw [← hu]; simp
  show [(u c0, eT τ u c0), (u (c0 + 1), eT τ u (c0 + 1)), (u (c0 + 2), eT τ u (c0 + 2)), (u (c0 + 3), eT τ u (c0 + 3))] = _
  rw [eT_i h1, eT_i h2, eT_i h3, hz 1 (by omega), hz 2 (by omega), hz 3 (by omega), u0, u1, u2, u3, eT_o h0]
  show [(x, Sum.inr (8, [Value.ref (u (c0 + 1)), .ref (u (c0 + 2)), .ref (u (c0 + 3)), .int (M0 c0 3), .int (M0 c0 4)])), _, _, _] = _
  rw [u1, u2, u3, show M0 c0 = fun _ => 0 from hz 0 (by omega)]
theorem st_shp : ∀ j, j < 16 → shp (23 + 4 * j) = (0, 8) ∧ shp (23 + 4 * j + 1) = (1, 8) ∧ shp (23 + 4 * j + 2) = (1, 8) ∧ shp (23 + 4 * j + 3) = (1, 8) := by decide +kernel
theorem st_cl : ∀ j, j < 16 → clB 23 (23 + 4 * j) 23 (4 * j) = true ∧ clB (23 + 4 * j) (23 + 4 * j + 4) (23 + 4 * j) 4 = true := by decide +kernel
theorem im_shp : ∀ j, j < 2 → shp (91 + 4 * j) = (0, 8) ∧ shp (91 + 4 * j + 1) = (1, 8) ∧ shp (91 + 4 * j + 2) = (1, 8) ∧ shp (91 + 4 * j + 3) = (1, 8) := by decide +kernel
theorem im_cl : ∀ j, j < 2 → clB 91 (91 + 4 * j) 91 (4 * j) = true ∧ clB (91 + 4 * j) (91 + 4 * j + 4) (91 + 4 * j) 4 = true := by decide +kernel
/-- the row of States, j of them made -/
def rowS (τ : gT) (u : Nat → Nat) (b n j : Nat) : va_E := .inl (τ.2.2, n, .inr (.inr (.inr (.inr (fun i => if i < j then some (u (b + 4 * i)) else none)))))
theorem rowS_next {τ : gT} {u u' : Nat → Nat} {b n j q : Nat} (hu : ∀ d, d < b + 4 * j → u' d = u d) (hq : u' (b + 4 * j) = q) : (.inl (τ.2.2, n, .inr (.inr (.inr (.inr (va_up (fun i => if i < j then some (u (b + 4 * i)) else none) j (some q)))))) : va_E) = rowS τ u' b n (j + 1) := by
  unfold rowS
  have hf : (va_up (fun i => if i < j then some (u (b + 4 * i)) else none) j (some q)) = (fun i => if i < j + 1 then some (u' (b + 4 * i)) else none) := by
    funext i
    unfold va_up
    by_cases h : i = j
    · subst h; rw [if_pos rfl, if_pos (by omega), hq]
    · rw [if_neg h]
      show (if i < j then some (u (b + 4 * i)) else none) = _
      by_cases h2 : i < j
      · rw [if_pos h2, if_pos (by omega), hu _ (by omega)]
      · rw [if_neg h2, if_neg (by omega)]
  rw [hf]
theorem stK_in {w : va_W} {τ : gT} {u : Nat → Nat} {c q k : Nat} (hk : w.length = k) (hs : shp c = (0, 8)) (hq : u c = q) : ∃ vs, (w ++ blk τ u c 4)[k]? = some (q, .inr (8, vs)) := by
  refine ⟨(List.range (nfL.getD 8 0)).map (fldT u 8 c), ?_⟩
  rw [List.getElem?_append_right (by omega), hk, Nat.sub_self, blk_at τ u c (by omega), Nat.add_zero, hq, eT_o hs]
theorem dX4_init_0 : decode cX4_init 0 = .ok (.aload_n 0, 1) := by decide +kernel
theorem dX4_init_1 : decode cX4_init 1 = .ok (.invokespecial 3, 3) := by decide +kernel
theorem dX4_init_4 : decode cX4_init 4 = .ok (.aload_n 0, 1) := by decide +kernel
theorem dX4_init_5 : decode cX4_init 5 = .ok (.bipush 16, 2) := by decide +kernel
theorem dX4_init_7 : decode cX4_init 7 = .ok (.anewarray 9, 3) := by decide +kernel
theorem dX4_init_10 : decode cX4_init 10 = .ok (.putfield 11, 3) := by decide +kernel
theorem dX4_init_13 : decode cX4_init 13 = .ok (.aload_n 0, 1) := by decide +kernel
theorem dX4_init_14 : decode cX4_init 14 = .ok (.iconst 0, 1) := by decide +kernel
theorem dX4_init_15 : decode cX4_init 15 = .ok (.putfield 17, 3) := by decide +kernel
theorem dX4_init_18 : decode cX4_init 18 = .ok (.aload_n 0, 1) := by decide +kernel
theorem dX4_init_19 : decode cX4_init 19 = .ok (.iconst 0, 1) := by decide +kernel
theorem dX4_init_20 : decode cX4_init 20 = .ok (.putfield 21, 3) := by decide +kernel
theorem dX4_init_23 : decode cX4_init 23 = .ok (.iconst 0, 1) := by decide +kernel
theorem dX4_init_24 : decode cX4_init 24 = .ok (.istore_n 1, 1) := by decide +kernel
theorem dX4_init_25 : decode cX4_init 25 = .ok (.iload_n 1, 1) := by decide +kernel
theorem dX4_init_26 : decode cX4_init 26 = .ok (.bipush 16, 2) := by decide +kernel
theorem dX4_init_28 : decode cX4_init 28 = .ok (.if_icmp .ge 22, 3) := by decide +kernel
theorem dX4_init_31 : decode cX4_init 31 = .ok (.aload_n 0, 1) := by decide +kernel
theorem dX4_init_32 : decode cX4_init 32 = .ok (.getfield 11, 3) := by decide +kernel
theorem dX4_init_35 : decode cX4_init 35 = .ok (.iload_n 1, 1) := by decide +kernel
theorem dX4_init_36 : decode cX4_init 36 = .ok (.new 9, 3) := by decide +kernel
theorem dX4_init_39 : decode cX4_init 39 = .ok (.dup, 1) := by decide +kernel
theorem dX4_init_40 : decode cX4_init 40 = .ok (.invokespecial 24, 3) := by decide +kernel
theorem dX4_init_43 : decode cX4_init 43 = .ok (.aastore, 1) := by decide +kernel
theorem dX4_init_44 : decode cX4_init 44 = .ok (.iinc 1 1, 3) := by decide +kernel
theorem dX4_init_47 : decode cX4_init 47 = .ok (.goto (-22), 3) := by decide +kernel
theorem dX4_init_50 : decode cX4_init 50 = .ok (.return_, 1) := by decide +kernel
def nlX4 : gNl := [(RX4, 24, yX8_init)]
def rmX4 : Room := { frames := 2, cells := 65, slots := 480, locals := 100 }
def wX4 (τ : gT) (u : Nat → Nat) (h0 : Nat) (q1 : Nat) (j : Nat) : va_W := (h0, .inr (4, [.ref q1, .int 0, .int 0])) :: (q1, rowS τ u 23 16 j) :: blk τ u 23 (4 * j)
theorem endX4 {D : va_G} {τ : gT} {A : Nat → Prop} {h0 : Nat} (q1 : Nat) (u : Nat → Nat) (t : State) (hK : va_K D classes (tYs τ) t) (hP : va_P D classes (wX4 τ u h0 q1 16) t.heap) (hD : va_D A (wX4 τ u h0 q1 16)) : PbM D τ A 21 66 h0 t := by
  have e : wX4 τ u h0 q1 16 = blk τ (fun d => if d = 21 then h0 else if d = 22 then q1 else u d) 21 66 := by
    generalize hu : (fun d => if d = 21 then h0 else if d = 22 then q1 else u d) = u'
    have hd : ∀ d, 23 ≤ d → u' d = u d := fun d h => by rw [← hu]; show (if _ then _ else _) = _; repeat rw [if_neg (by omega)]
    rw [show 66 = 64 + 2 from rfl, Nat.add_comm, blk_add]
    rw [show 21 + 2 = 23 from rfl, ← blk_congr (τ := τ) (u := u) (u' := u') (lo := 23) (hi := 87) (c0 := 23) (n := 64) (by decide +kernel) (Nat.le_refl _) (Nat.le_refl _) (fun d h _ => (hd d h).symm)]
    have er : rowS τ u 23 16 16 = rowS τ u' 23 16 16 := by
      unfold rowS
      have hf : (fun i => if i < 16 then some (u (23 + 4 * i)) else none) = (fun i => if i < 16 then some (u' (23 + 4 * i)) else none) := by
        funext i
        rw [hd (23 + 4 * i) (by omega)]
      rw [hf]
    subst hu
    unfold wX4
    rw [er]
    rfl
  rw [e] at hP hD
  exact ⟨_, rfl, hK, hP, hD⟩
theorem loopX4 {D : va_G} {τ : gT} {sz h0 : Nat} (q1 : Nat) : ∀ (m j : Nat) (u : Nat → Nat), j + m = 16 → KJ D (va_A [(h0, .inr (4, [.null, .int 0, .int 0]))] sz) sz (Zn nlX4) mX4_init rmX4 65 480 (PbM D τ (va_A [(h0, .inr (4, [.null, .int 0, .int 0]))] sz) 21 66 h0) 25 [.ref h0, .int (nI j)] [] (tYs τ) (wX4 τ u h0 q1 j) (1 + 4 * j) (16 + 29 * j) := by
  have hA : ∀ q, sz ≤ q → (va_A [(h0, .inr (4, [.null, .int 0, .int 0]))] sz) q := fun q h => Or.inr h
  intro m
  induction m with
  | zero =>
    intro j u hj
    have hj : j = 16 := by omega
    subst hj
    refine k_iload_n dX4_init_25 rfl rfl ?_
    refine k_bipush (v := 16) dX4_init_26 rfl ?_
    refine k_icmp_ge (tgt := 50) dX4_init_28 (by decide) (fun _ => ?_) (fun h => absurd (show (16 : Int32) ≤ nI 16 by decide) h)
    exact k_vret dX4_init_50 rfl rfl (fun t hK hP hD => endX4 q1 u t hK hP hD)
  | succ m ih =>
    intro j u hj
    have hlt : j < 16 := by omega
    refine k_iload_n dX4_init_25 rfl rfl ?_
    refine k_bipush (v := 16) dX4_init_26 rfl ?_
    refine k_icmp_ge (tgt := 50) dX4_init_28 (by decide) (fun h => ?_) (fun _ => ?_)
    · have h : nI 16 ≤ nI j := h
      exact absurd h (Int32.not_le.mpr (nI_lt hlt (by omega)))
    refine k_aload dX4_init_31 rfl rfl ?_
    refine k_get (a := h0) (ci := 4) (k := 0) (q0 := 0) (N := 3) (C := RX4) (T := TX4) (v := .ref q1) dX4_init_32 rfl rfl inG4 (by decide) (tbG_t (List.mem_of_getElem? (i := 136) (by decide +kernel)) (by decide +kernel)) rfl ?_
    refine k_iload_n dX4_init_35 rfl rfl ?_
    refine k_new (ci := 8) (N := 5) (C := RX8) (T := TX8) (fs := [.null, .null, .null, .int 0, .int 0]) hA dX4_init_36 rfl inG8 tyX8 tyX8_ok (tbG_t (List.mem_of_getElem? (i := 133) (by decide +kernel)) (by decide +kernel)) (tbG_t (List.mem_of_getElem? (i := 97) (by decide +kernel)) (by decide +kernel)) (tbG_t (List.mem_of_getElem? (i := 4) (by decide +kernel)) (by decide +kernel)) (fun k hk => by rcases k with _ | _ | _ | _ | _ | k <;> first | rfl | omega) (by show _ ≤ 65; omega) (by show _ ≤ 480; omega) (fun q => ?_)
    refine k_dup rfl dX4_init_39 ?_
    obtain ⟨s0, s1, s2, s3⟩ := st_shp j hlt
    refine k_callN (μ' := mX8_init) (nl' := []) hA (ct_X8 (23 + 4 * j) (blkX8 s0 s1 s2 s3 (by omega) (by omega))) dX4_init_40 (by simp [nlX4, mX4_init, mX8_init, yX4_init]) (fun _ h => by cases h) (tbG_t (List.mem_of_getElem? (i := 100) (by decide +kernel)) (by decide +kernel)) rfl (tbG_t (List.mem_of_getElem? (i := 4) (by decide +kernel)) (by decide +kernel)) (tbG_t (List.mem_of_getElem? (i := 99) (by decide +kernel)) (by decide +kernel)) rfl okp_X8_init rfl rfl ⟨by decide, by decide⟩ (by show (3 : Nat) ≤ 8; omega) (by show _ ≤ 65; omega) (by show _ ≤ 480; omega) (fun u1 hu1 => ?_)
    obtain ⟨vs, hvs⟩ := stK_in (w := wX4 τ u h0 q1 j) (τ := τ) (u := u1) (c := 23 + 4 * j) (q := q) (k := 2 + 4 * j) (by simp [wX4, blk_len]; omega) s0 hu1
    obtain ⟨g1, g2⟩ := st_cl j hlt
    have hw' : (wX4 τ u h0 q1 j ++ blk τ u1 (23 + 4 * j) 4).set 1 (q1, .inl (τ.2.2, 16, .inr (.inr (.inr (.inr (va_up (fun i => if i < j then some (u (23 + 4 * i)) else none) j (some q))))))) = wX4 τ (fun d => if d < 23 + 4 * j then u d else u1 d) h0 q1 (j + 1) := by
      generalize hu : (fun d => if d < 23 + 4 * j then u d else u1 d) = u'
      have hl : ∀ d, d < 23 + 4 * j → u' d = u d := fun d h => by rw [← hu]; exact if_pos h
      have hr : ∀ d, 23 + 4 * j ≤ d → u' d = u1 d := fun d h => by rw [← hu]; exact if_neg (by omega)
      rw [rowS_next (u' := u') hl ((hr _ (Nat.le_refl _)).trans hu1)]
      unfold wX4
      rw [show 4 * (j + 1) = 4 * j + 4 from rfl, ← blk_glue (τ := τ) (u := u) (u1 := u1) rfl g1 g2 hl hr]
      rfl
    refine k_astS (q0 := 1) (qk := 2 + 4 * j) (n := 16) dX4_init_43 rfl hvs hlt (by decide) hw' ?_
    refine k_iinc (v := nI (j + 1)) (L' := [.ref h0, .int (nI (j + 1))]) dX4_init_44 rfl (nI_1 j) (by decide) rfl rfl ?_
    refine k_goto (tgt := 25) dX4_init_47 (by decide) ?_
    have := ih (j + 1) (fun d => if d < 23 + 4 * j then u d else u1 d) (by omega)
    rw [show 1 + 4 * (j + 1) = 1 + 4 * j + 1 + 3 by omega, show 16 + 29 * (j + 1) = 16 + 29 * j + 5 + 24 by omega] at this
    exact this
theorem ct_X4 {D : va_G} {τ : gT} : Ct D τ (Zn nlX4) mX4_init rmX4 65 480 4 [.null, .int 0, .int 0] 21 66 := by
  intro l h0 sz
  have hA : ∀ q, sz ≤ q → (va_A [(h0, .inr (4, [.null, .int 0, .int 0]))] sz) q := fun q h => Or.inr h
  refine k_entry (n0 := 1) (L := [.ref h0, .null]) (by decide +kernel) rfl rfl (by decide) rfl ?_ l
  refine k_aload dX4_init_0 rfl rfl ?_
  refine k_obj dX4_init_1 (tbG_t (List.mem_of_getElem? (i := 132) (by decide +kernel)) (by decide +kernel)) (by decide) (by decide) ?_
  refine k_aload dX4_init_4 rfl rfl ?_
  refine k_bipush (v := 16) dX4_init_5 rfl ?_
  refine k_newQ (n := 16) hA dX4_init_7 (tbG_t (List.mem_of_getElem? (i := 133) (by decide +kernel)) (by decide +kernel)) (fun _ h => h.1) (by decide) (by decide) (by decide) (fun q1 => ?_)
  refine k_putF (a := h0) (ci := 4) (k := 0) (q0 := 0) (N := 3) (C := RX4) (T := TX4) (ty := tyX4 0) (v := .ref q1) (ws' := [(h0, .inr (4, [.ref q1, .int 0, .int 0])), (q1, .inl (τ.2.2, 16, .inr (.inr (.inr (.inr (fun _ => none))))))]) dX4_init_10 rfl rfl inG4 tyX4 tyX4_ok nmX4 (by decide) (tbG_t (List.mem_of_getElem? (i := 136) (by decide +kernel)) (by decide +kernel)) rfl rfl (tyX4_ok 0 (by decide)) rfl rfl (Nat.le_of_ble_eq_true rfl) rfl ?_
  refine k_aload dX4_init_13 rfl rfl ?_
  refine k_iconst (v := 0) dX4_init_14 rfl ?_
  refine k_put (a := h0) (ci := 4) (k := 1) (q0 := 0) (N := 3) (C := RX4) (T := TX4) (ty := tyX4 1) (v := .int 0) (ws' := [(h0, .inr (4, [.ref q1, .int 0, .int 0])), (q1, .inl (τ.2.2, 16, .inr (.inr (.inr (.inr (fun _ => none))))))]) dX4_init_15 rfl rfl inG4 tyX4 tyX4_ok nmX4 (by decide) (tbG_t (List.mem_of_getElem? (i := 137) (by decide +kernel)) (by decide +kernel)) rfl (tyX4_ok 1 (by decide)) rfl rfl (Nat.le_of_ble_eq_true rfl) rfl ?_
  refine k_aload dX4_init_18 rfl rfl ?_
  refine k_iconst (v := 0) dX4_init_19 rfl ?_
  refine k_put (a := h0) (ci := 4) (k := 2) (q0 := 0) (N := 3) (C := RX4) (T := TX4) (ty := tyX4 2) (v := .int 0) (ws' := [(h0, .inr (4, [.ref q1, .int 0, .int 0])), (q1, .inl (τ.2.2, 16, .inr (.inr (.inr (.inr (fun _ => none))))))]) dX4_init_20 rfl rfl inG4 tyX4 tyX4_ok nmX4 (by decide) (tbG_t (List.mem_of_getElem? (i := 138) (by decide +kernel)) (by decide +kernel)) rfl (tyX4_ok 2 (by decide)) rfl rfl (Nat.le_of_ble_eq_true rfl) rfl ?_
  refine k_iconst (v := 0) dX4_init_23 rfl ?_
  refine k_istore_n (L' := [.ref h0, .int 0]) dX4_init_24 rfl (by decide) rfl rfl ?_
  exact loopX4 q1 16 0 (fun _ => 0) rfl
theorem dX2_init_0 : decode cX2_init 0 = .ok (.aload_n 0, 1) := by decide +kernel
theorem dX2_init_1 : decode cX2_init 1 = .ok (.invokespecial 3, 3) := by decide +kernel
theorem dX2_init_4 : decode cX2_init 4 = .ok (.aload_n 0, 1) := by decide +kernel
theorem dX2_init_5 : decode cX2_init 5 = .ok (.iconst 2, 1) := by decide +kernel
theorem dX2_init_6 : decode cX2_init 6 = .ok (.anewarray 9, 3) := by decide +kernel
theorem dX2_init_9 : decode cX2_init 9 = .ok (.putfield 11, 3) := by decide +kernel
theorem dX2_init_12 : decode cX2_init 12 = .ok (.aload_n 0, 1) := by decide +kernel
theorem dX2_init_13 : decode cX2_init 13 = .ok (.iconst 2, 1) := by decide +kernel
theorem dX2_init_14 : decode cX2_init 14 = .ok (.newarray .int, 2) := by decide +kernel
theorem dX2_init_16 : decode cX2_init 16 = .ok (.putfield 17, 3) := by decide +kernel
theorem dX2_init_19 : decode cX2_init 19 = .ok (.aload_n 0, 1) := by decide +kernel
theorem dX2_init_20 : decode cX2_init 20 = .ok (.iconst 2, 1) := by decide +kernel
theorem dX2_init_21 : decode cX2_init 21 = .ok (.newarray .boolean, 2) := by decide +kernel
theorem dX2_init_23 : decode cX2_init 23 = .ok (.putfield 21, 3) := by decide +kernel
theorem dX2_init_26 : decode cX2_init 26 = .ok (.iconst 0, 1) := by decide +kernel
theorem dX2_init_27 : decode cX2_init 27 = .ok (.istore_n 1, 1) := by decide +kernel
theorem dX2_init_28 : decode cX2_init 28 = .ok (.iload_n 1, 1) := by decide +kernel
theorem dX2_init_29 : decode cX2_init 29 = .ok (.iconst 2, 1) := by decide +kernel
theorem dX2_init_30 : decode cX2_init 30 = .ok (.if_icmp .ge 22, 3) := by decide +kernel
theorem dX2_init_33 : decode cX2_init 33 = .ok (.aload_n 0, 1) := by decide +kernel
theorem dX2_init_34 : decode cX2_init 34 = .ok (.getfield 11, 3) := by decide +kernel
theorem dX2_init_37 : decode cX2_init 37 = .ok (.iload_n 1, 1) := by decide +kernel
theorem dX2_init_38 : decode cX2_init 38 = .ok (.new 9, 3) := by decide +kernel
theorem dX2_init_41 : decode cX2_init 41 = .ok (.dup, 1) := by decide +kernel
theorem dX2_init_42 : decode cX2_init 42 = .ok (.invokespecial 25, 3) := by decide +kernel
theorem dX2_init_45 : decode cX2_init 45 = .ok (.aastore, 1) := by decide +kernel
theorem dX2_init_46 : decode cX2_init 46 = .ok (.iinc 1 1, 3) := by decide +kernel
theorem dX2_init_49 : decode cX2_init 49 = .ok (.goto (-21), 3) := by decide +kernel
theorem dX2_init_52 : decode cX2_init 52 = .ok (.return_, 1) := by decide +kernel
def nlX2 : gNl := [(RX2, 25, yX8_init)]
def rmX2 : Room := { frames := 2, cells := 11, slots := 64, locals := 100 }
def wX2 (τ : gT) (u : Nat → Nat) (h0 : Nat) (q1 q2 q3 : Nat) (j : Nat) : va_W := (h0, .inr (2, [.ref q1, .ref q2, .ref q3])) :: (q1, rowS τ u 91 2 j) :: (q2, .inl (τ.1, 2, .inl (fun _ => 0))) :: (q3, .inl (τ.2.1, 2, .inl (fun _ => 0))) :: blk τ u 91 (4 * j)
theorem endX2 {D : va_G} {τ : gT} {A : Nat → Prop} {h0 : Nat} (q1 q2 q3 : Nat) (u : Nat → Nat) (t : State) (hK : va_K D classes (tYs τ) t) (hP : va_P D classes (wX2 τ u h0 q1 q2 q3 2) t.heap) (hD : va_D A (wX2 τ u h0 q1 q2 q3 2)) : PbM D τ A 87 12 h0 t := by
  have e : wX2 τ u h0 q1 q2 q3 2 = blk τ (fun d => if d = 87 then h0 else if d = 88 then q1 else if d = 89 then q2 else if d = 90 then q3 else u d) 87 12 := by
    generalize hu : (fun d => if d = 87 then h0 else if d = 88 then q1 else if d = 89 then q2 else if d = 90 then q3 else u d) = u'
    have hd : ∀ d, 91 ≤ d → u' d = u d := fun d h => by rw [← hu]; show (if _ then _ else _) = _; repeat rw [if_neg (by omega)]
    rw [show 12 = 8 + 4 from rfl, Nat.add_comm, blk_add]
    rw [show 87 + 4 = 91 from rfl, ← blk_congr (τ := τ) (u := u) (u' := u') (lo := 91) (hi := 99) (c0 := 91) (n := 8) (by decide +kernel) (Nat.le_refl _) (Nat.le_refl _) (fun d h _ => (hd d h).symm)]
    have er : rowS τ u 91 2 2 = rowS τ u' 91 2 2 := by
      unfold rowS
      have hf : (fun i => if i < 2 then some (u (91 + 4 * i)) else none) = (fun i => if i < 2 then some (u' (91 + 4 * i)) else none) := by
        funext i
        rw [hd (91 + 4 * i) (by omega)]
      rw [hf]
    subst hu
    unfold wX2
    rw [er]
    rfl
  rw [e] at hP hD
  exact ⟨_, rfl, hK, hP, hD⟩
theorem loopX2 {D : va_G} {τ : gT} {sz h0 : Nat} (q1 q2 q3 : Nat) : ∀ (m j : Nat) (u : Nat → Nat), j + m = 2 → KJ D (va_A [(h0, .inr (2, [.null, .null, .null]))] sz) sz (Zn nlX2) mX2_init rmX2 11 64 (PbM D τ (va_A [(h0, .inr (2, [.null, .null, .null]))] sz) 87 12 h0) 28 [.ref h0, .int (nI j)] [] (tYs τ) (wX2 τ u h0 q1 q2 q3 j) (3 + 4 * j) (6 + 29 * j) := by
  have hA : ∀ q, sz ≤ q → (va_A [(h0, .inr (2, [.null, .null, .null]))] sz) q := fun q h => Or.inr h
  intro m
  induction m with
  | zero =>
    intro j u hj
    have hj : j = 2 := by omega
    subst hj
    refine k_iload_n dX2_init_28 rfl rfl ?_
    refine k_iconst (v := 2) dX2_init_29 rfl ?_
    refine k_icmp_ge (tgt := 52) dX2_init_30 (by decide) (fun _ => ?_) (fun h => absurd (show (2 : Int32) ≤ nI 2 by decide) h)
    exact k_vret dX2_init_52 rfl rfl (fun t hK hP hD => endX2 q1 q2 q3 u t hK hP hD)
  | succ m ih =>
    intro j u hj
    have hlt : j < 2 := by omega
    refine k_iload_n dX2_init_28 rfl rfl ?_
    refine k_iconst (v := 2) dX2_init_29 rfl ?_
    refine k_icmp_ge (tgt := 52) dX2_init_30 (by decide) (fun h => ?_) (fun _ => ?_)
    · have h : nI 2 ≤ nI j := h
      exact absurd h (Int32.not_le.mpr (nI_lt hlt (by omega)))
    refine k_aload dX2_init_33 rfl rfl ?_
    refine k_get (a := h0) (ci := 2) (k := 0) (q0 := 0) (N := 3) (C := RX2) (T := TX2) (v := .ref q1) dX2_init_34 rfl rfl inG2 (by decide) (tbG_t (List.mem_of_getElem? (i := 155) (by decide +kernel)) (by decide +kernel)) rfl ?_
    refine k_iload_n dX2_init_37 rfl rfl ?_
    refine k_new (ci := 8) (N := 5) (C := RX8) (T := TX8) (fs := [.null, .null, .null, .int 0, .int 0]) hA dX2_init_38 rfl inG8 tyX8 tyX8_ok (tbG_t (List.mem_of_getElem? (i := 153) (by decide +kernel)) (by decide +kernel)) (tbG_t (List.mem_of_getElem? (i := 97) (by decide +kernel)) (by decide +kernel)) (tbG_t (List.mem_of_getElem? (i := 4) (by decide +kernel)) (by decide +kernel)) (fun k hk => by rcases k with _ | _ | _ | _ | _ | k <;> first | rfl | omega) (by show _ ≤ 11; omega) (by show _ ≤ 64; omega) (fun q => ?_)
    refine k_dup rfl dX2_init_41 ?_
    obtain ⟨s0, s1, s2, s3⟩ := im_shp j hlt
    refine k_callN (μ' := mX8_init) (nl' := []) hA (ct_X8 (91 + 4 * j) (blkX8 s0 s1 s2 s3 (by omega) (by omega))) dX2_init_42 (by simp [nlX2, mX2_init, mX8_init, yX2_init]) (fun _ h => by cases h) (tbG_t (List.mem_of_getElem? (i := 100) (by decide +kernel)) (by decide +kernel)) rfl (tbG_t (List.mem_of_getElem? (i := 4) (by decide +kernel)) (by decide +kernel)) (tbG_t (List.mem_of_getElem? (i := 99) (by decide +kernel)) (by decide +kernel)) rfl okp_X8_init rfl rfl ⟨by decide, by decide⟩ (by show (3 : Nat) ≤ 8; omega) (by show _ ≤ 11; omega) (by show _ ≤ 64; omega) (fun u1 hu1 => ?_)
    obtain ⟨vs, hvs⟩ := stK_in (w := wX2 τ u h0 q1 q2 q3 j) (τ := τ) (u := u1) (c := 91 + 4 * j) (q := q) (k := 4 + 4 * j) (by simp [wX2, blk_len]; omega) s0 hu1
    obtain ⟨g1, g2⟩ := im_cl j hlt
    have hw' : (wX2 τ u h0 q1 q2 q3 j ++ blk τ u1 (91 + 4 * j) 4).set 1 (q1, .inl (τ.2.2, 2, .inr (.inr (.inr (.inr (va_up (fun i => if i < j then some (u (91 + 4 * i)) else none) j (some q))))))) = wX2 τ (fun d => if d < 91 + 4 * j then u d else u1 d) h0 q1 q2 q3 (j + 1) := by
      generalize hu : (fun d => if d < 91 + 4 * j then u d else u1 d) = u'
      have hl : ∀ d, d < 91 + 4 * j → u' d = u d := fun d h => by rw [← hu]; exact if_pos h
      have hr : ∀ d, 91 + 4 * j ≤ d → u' d = u1 d := fun d h => by rw [← hu]; exact if_neg (by omega)
      rw [rowS_next (u' := u') hl ((hr _ (Nat.le_refl _)).trans hu1)]
      unfold wX2
      rw [show 4 * (j + 1) = 4 * j + 4 from rfl, ← blk_glue (τ := τ) (u := u) (u1 := u1) rfl g1 g2 hl hr]
      rfl
    refine k_astS (q0 := 1) (qk := 4 + 4 * j) (n := 2) dX2_init_45 rfl hvs hlt (by decide) hw' ?_
    refine k_iinc (v := nI (j + 1)) (L' := [.ref h0, .int (nI (j + 1))]) dX2_init_46 rfl (nI_1 j) (by decide) rfl rfl ?_
    refine k_goto (tgt := 28) dX2_init_49 (by decide) ?_
    have := ih (j + 1) (fun d => if d < 91 + 4 * j then u d else u1 d) (by omega)
    rw [show 3 + 4 * (j + 1) = 3 + 4 * j + 1 + 3 by omega, show 6 + 29 * (j + 1) = 6 + 29 * j + 5 + 24 by omega] at this
    exact this
theorem ct_X2 {D : va_G} {τ : gT} : Ct D τ (Zn nlX2) mX2_init rmX2 11 64 2 [.null, .null, .null] 87 12 := by
  intro l h0 sz
  have hA : ∀ q, sz ≤ q → (va_A [(h0, .inr (2, [.null, .null, .null]))] sz) q := fun q h => Or.inr h
  refine k_entry (n0 := 1) (L := [.ref h0, .null]) (by decide +kernel) rfl rfl (by decide) rfl ?_ l
  refine k_aload dX2_init_0 rfl rfl ?_
  refine k_obj dX2_init_1 (tbG_t (List.mem_of_getElem? (i := 152) (by decide +kernel)) (by decide +kernel)) (by decide) (by decide) ?_
  refine k_aload dX2_init_4 rfl rfl ?_
  refine k_iconst (v := 2) dX2_init_5 rfl ?_
  refine k_newQ (n := 2) hA dX2_init_6 (tbG_t (List.mem_of_getElem? (i := 153) (by decide +kernel)) (by decide +kernel)) (fun _ h => h.1) (by decide) (by decide) (by decide) (fun q1 => ?_)
  refine k_putF (a := h0) (ci := 2) (k := 0) (q0 := 0) (N := 3) (C := RX2) (T := TX2) (ty := tyX2 0) (v := .ref q1) (ws' := [(h0, .inr (2, [.ref q1, .null, .null])), (q1, .inl (τ.2.2, 2, .inr (.inr (.inr (.inr (fun _ => none))))))]) dX2_init_9 rfl rfl inG2 tyX2 tyX2_ok nmX2 (by decide) (tbG_t (List.mem_of_getElem? (i := 155) (by decide +kernel)) (by decide +kernel)) rfl rfl (tyX2_ok 0 (by decide)) rfl rfl (Nat.le_of_ble_eq_true rfl) rfl ?_
  refine k_aload dX2_init_12 rfl rfl ?_
  refine k_iconst (v := 2) dX2_init_13 rfl ?_
  refine k_newI (n := 2) hA dX2_init_14 (tbG_t (List.mem_of_getElem? (i := 71) (by decide +kernel)) (by decide +kernel)) (by decide) (by decide) (by decide) (fun q2 => ?_)
  refine k_putF (a := h0) (ci := 2) (k := 1) (q0 := 0) (N := 3) (C := RX2) (T := TX2) (ty := tyX2 1) (v := .ref q2) (ws' := [(h0, .inr (2, [.ref q1, .ref q2, .null])), (q1, .inl (τ.2.2, 2, .inr (.inr (.inr (.inr (fun _ => none)))))), (q2, .inl (τ.1, 2, .inl (fun _ => 0)))]) dX2_init_16 rfl rfl inG2 tyX2 tyX2_ok nmX2 (by decide) (tbG_t (List.mem_of_getElem? (i := 157) (by decide +kernel)) (by decide +kernel)) rfl rfl (tyX2_ok 1 (by decide)) rfl rfl (Nat.le_of_ble_eq_true rfl) rfl ?_
  refine k_aload dX2_init_19 rfl rfl ?_
  refine k_iconst (v := 2) dX2_init_20 rfl ?_
  refine k_newZ (n := 2) hA dX2_init_21 (tbG_t (List.mem_of_getElem? (i := 168) (by decide +kernel)) (by decide +kernel)) (by decide) (by decide) (by decide) (fun q3 => ?_)
  refine k_putF (a := h0) (ci := 2) (k := 2) (q0 := 0) (N := 3) (C := RX2) (T := TX2) (ty := tyX2 2) (v := .ref q3) (ws' := [(h0, .inr (2, [.ref q1, .ref q2, .ref q3])), (q1, .inl (τ.2.2, 2, .inr (.inr (.inr (.inr (fun _ => none)))))), (q2, .inl (τ.1, 2, .inl (fun _ => 0))), (q3, .inl (τ.2.1, 2, .inl (fun _ => 0)))]) dX2_init_23 rfl rfl inG2 tyX2 tyX2_ok nmX2 (by decide) (tbG_t (List.mem_of_getElem? (i := 159) (by decide +kernel)) (by decide +kernel)) rfl rfl (tyX2_ok 2 (by decide)) rfl rfl (Nat.le_of_ble_eq_true rfl) rfl ?_
  refine k_iconst (v := 0) dX2_init_26 rfl ?_
  refine k_istore_n (L' := [.ref h0, .int 0]) dX2_init_27 rfl (by decide) rfl rfl ?_
  exact loopX2 q1 q2 q3 2 0 (fun _ => 0) rfl
end Make8
