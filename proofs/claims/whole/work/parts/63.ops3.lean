section Ops3
variable {κ : gK} {M : MM}
theorem pers4 {la : Nat → Nat} {p : Nat} : whoF la (la p) ^^^ (whoF la (la p) &&& 2 ^ p) = bits (fun q => decide (q ≠ p) && decide (la p &&& la q ≠ 0)) 8 := by
  apply Nat.eq_of_testBit_eq
  intro i
  rw [Nat.testBit_xor, Nat.testBit_and, Nat.testBit_two_pow]
  unfold whoF
  rw [bits_tb, bits_tb, Nat.and_comm (la i) (la p)]
  by_cases e : i = p
  · subst e; simp
  · have : ¬ p = i := fun q => e q.symm
    simp [e, this]
theorem op_person (hI : IV M) (x y : Int32) : Cl κ mX10_person [.ref 0, .int x, .int y] M (fun r M1 => Cl κ mX11_person [.ref 119, .int x, .int y] M1 (fun r' M2 => r = r' ∧ IV M2)) := by
  have hI2 := hI
  obtain ⟨t, s, u, f, a, ht, hs, hu, ho, c1, c2, c3, d1, d2, d3⟩ := hI
  have hP := ht.2.1
  refine eX10_person _ _ (bX10_person_0 _ _ (s_hasPerson twO_1 c3.1 ht (fun k hk e => b1 ?_) (fun hn => b0 ?_)))
  · subst e
    have k8 : k < 8 := by omega
    have go : ∀ r : Int32, ((y = 0 → r = nI (t.2.2.2.2.1 k)) ∧ (y = 1 → r = nI (s.2.2.1 k)) ∧ (y = 2 → r = nI (s.2.2.2.1 k)) ∧ (y = 3 → r = nI (s.2.2.2.2 k)) ∧ (y = 4 → r = nI (bits (fun q => decide (q ≠ k) && decide (s.2.2.1 k &&& s.2.2.1 q ≠ 0)) 8)) ∧ ((∀ j : Nat, j ≤ 4 → y ≠ nI j) → r = -1000000002)) → Cl κ mX11_person [.ref 119, .int (nI k), .int y] M (fun r' M2 => r = r' ∧ IV M2) := by
      rintro r ⟨g0, g1, g2, g3, g4, g5⟩
      refine eX11_person _ _ (bX11_person_0 _ _ (r_isPerson d3.1 ht (fun k2 hk2 e2 => b1 ⟨fun c => ⟨v8 k8, ?_, hI2⟩, fun c => r_layersOf k8 d1 ⟨g1 c, hI2⟩, fun c => ?_, fun c => ?_, fun c => r_meets hk d3.1 ht d1 hs.1 ⟨g4 c, hI2⟩, fun c => ⟨g5 c, hI2⟩⟩) (fun hn => absurd ⟨k, hk, rfl⟩ hn)))
      · rw [t8 k8, d3.1.2.2.2.2.1 k hk]; exact g0 c
      · rw [show (10 : Int32) = nI 10 from rfl, two_tN (by omega), d1.ea k8]; exact ⟨two_in (by omega), g2 c, hI2⟩
      · rw [show (18 : Int32) = nI 18 from rfl, two_tN (by omega), d1.he k8]; exact ⟨two_in (by omega), g3 c, hI2⟩
    have ne : ∀ i j : Nat, i < 5 → j < 5 → i ≠ j → y = nI i → y ≠ nI j := fun i j hi hj hij e e2 => hij (nI_inj (by omega) (by omega) (e.symm.trans e2))
    rw [t8 k8, c3.1.2.2.2.2.1 k hk, (c1.2.2 k k8).1, (c1.2.2 k k8).2.1, (c1.2.2 k k8).2.2]
    refine ⟨fun c => ⟨v8 k8, go _ ⟨fun _ => rfl, fun c' => absurd c' (ne 0 1 (by decide) (by decide) (by decide) c), fun c' => absurd c' (ne 0 2 (by decide) (by decide) (by decide) c), fun c' => absurd c' (ne 0 3 (by decide) (by decide) (by decide) c), fun c' => absurd c' (ne 0 4 (by decide) (by decide) (by decide) c), fun c' => absurd c (c' 0 (by decide))⟩⟩,
      fun c => ⟨v8 k8, go _ ⟨fun c' => absurd c' (ne 1 0 (by decide) (by decide) (by decide) c), fun _ => rfl, fun c' => absurd c' (ne 1 2 (by decide) (by decide) (by decide) c), fun c' => absurd c' (ne 1 3 (by decide) (by decide) (by decide) c), fun c' => absurd c' (ne 1 4 (by decide) (by decide) (by decide) c), fun c' => absurd c (c' 1 (by decide))⟩⟩,
      fun c => ⟨v8 k8, go _ ⟨fun c' => absurd c' (ne 2 0 (by decide) (by decide) (by decide) c), fun c' => absurd c' (ne 2 1 (by decide) (by decide) (by decide) c), fun _ => rfl, fun c' => absurd c' (ne 2 3 (by decide) (by decide) (by decide) c), fun c' => absurd c' (ne 2 4 (by decide) (by decide) (by decide) c), fun c' => absurd c (c' 2 (by decide))⟩⟩,
      fun c => ⟨v8 k8, go _ ⟨fun c' => absurd c' (ne 3 0 (by decide) (by decide) (by decide) c), fun c' => absurd c' (ne 3 1 (by decide) (by decide) (by decide) c), fun c' => absurd c' (ne 3 2 (by decide) (by decide) (by decide) c), fun _ => rfl, fun c' => absurd c' (ne 3 4 (by decide) (by decide) (by decide) c), fun c' => absurd c (c' 3 (by decide))⟩⟩,
      fun c => ⟨v8 k8, s_whoIsOn stO_13 c1 (hs.1.b512 ht) ?_⟩,
      fun c => go _ ⟨fun c' => absurd c' (c 0 (by decide)), fun c' => absurd c' (c 1 (by decide)), fun c' => absurd c' (c 2 (by decide)), fun c' => absurd c' (c 3 (by decide)), fun c' => absurd c' (c 4 (by decide)), fun _ => rfl⟩⟩
    rw [one_shl (by omega), nI_clr, pers4]
    exact go _ ⟨fun c' => absurd c' (ne 4 0 (by decide) (by decide) (by decide) c), fun c' => absurd c' (ne 4 1 (by decide) (by decide) (by decide) c), fun c' => absurd c' (ne 4 2 (by decide) (by decide) (by decide) c), fun c' => absurd c' (ne 4 3 (by decide) (by decide) (by decide) c), fun _ => rfl, fun c' => absurd c (c' 4 (by decide))⟩
  · exact eX11_person _ _ (bX11_person_0 _ _ (r_isPerson d3.1 ht (fun k2 hk2 e2 => absurd ⟨k2, hk2, e2⟩ hn) (fun _ => b0 ⟨rfl, hI2⟩)))
/-- the reference's first act in a doing: the state is noted -/
theorem RO_notes {M M' : MM} {t : TW} {a : AO} (d : RO M t a) (g1 : ∀ c, c ≠ 119 → c ≠ 126 → M' c = M c) (g2 : ∀ k, k ≠ 19 → M' 119 k = M 119 k) : RO M' t a :=
  d.kept (fun c hc => by unfold cR at hc; exact g1 c (by omega) (by omega)) (fun k hk => by unfold kR at hk; exact g2 k (by omega))
theorem op_step (hI : IV M) (x y : Int32) : Cl κ mX10_step [.ref 0, .int x, .int y] M (fun r M1 => Cl κ mX11_step [.ref 119, .int x, .int y] M1 (fun r' M2 => r = r' ∧ IV M2)) := by
  have hI2 := hI
  obtain ⟨t, s, u, f, a, ht, hs, hu, ho, c1, c2, c3, d1, d2, d3⟩ := hI
  have hP := ht.2.1
  have h9 := ht.n9
  refine eX10_step _ _ (bX10_step_0 _ _ (s_hasPerson twO_1 c3.1 ht (fun k hk e => b1 (s_hasLayer twO_1 c3.1 ht (fun j hj e' => b1 ?_) (fun hn => b0 (bX10_step_22 ?_)))) (fun hn => b0 (bX10_step_22 ?_))))
  · subst e; subst e'
    have k8 : k < 8 := by omega
    refine s_remember stO_13 (by decide) c1 c2 (fun M1 fM1 pM1 => ?_)
    have c1' := c1.fr fM1 (by omega)
    rw [t8 k8, (c1'.2.2 k k8).1, one_shl (by omega)]
    refine ⟨v8 k8, ?_⟩
    rintro v4 rfl M2 rfl
    have fr2 : fr 13 87 M (pt M1 14 k (nI (2 ^ j))) := (fM1.up (by omega) (by omega)).pt (by omega) (by omega)
    have d1' := d1.fr fr2 (by omega)
    have d3' : RO _ t a := d3.fr fr2 (by decide)
    refine eX11_step _ _ (bX11_step_0 _ _ (r_isPerson d3'.1 ht (fun k2 hk2 e2 => b1 (r_isLayer d3'.1 ht (fun j2 hj2 e3 => b1 ?_) (fun hn => absurd ⟨j, hj, rfl⟩ hn))) (fun hn => absurd ⟨k, hk, rfl⟩ hn)))
    refine r_notes d1' (d2.fr fr2 (by decide)) (fun M3 g1 g2 g3 => ?_)
    have d1'' : Rv M3 122 0 s := d1'.blk (fun j _ => by rw [g1 122 (by decide) (by decide)])
    refine r_layersOf k8 d1'' ?_
    rw [show (2 : Int32) = nI 2 from rfl, two_tN (by omega), one_shl (by omega)]
    refine ⟨two_in (by omega), ?_⟩
    rintro M5 rfl
    refine ⟨rfl, IV.done ht hs (okS_la hs hk (Nat.pow_lt_pow_right (by decide) hj) (Nat.two_pow_pos j)) hu ho c3 d3 fr2 (Sv_la (o := 13) c1') (PaC_kept13 (hi := 17) pM1 (fr.rf.pt (by omega) (by omega))) (fun c h1 h2 h3 h4 => by rw [pt_c _ _ h2, g1 c h1 h3]) (fun q hq => by rw [pt_c _ _ (by decide), g2 q hq]) (Rv_la k8 d1'') (g3.kept (by rw [pt_c _ _ (by decide)]) (pt_c _ _ (by decide)))⟩
  · exact eX11_step _ _ (bX11_step_0 _ _ (r_isPerson d3.1 ht (fun k2 hk2 e2 => b1 (r_isLayer d3.1 ht (fun j2 hj2 e3 => absurd ⟨j2, hj2, e3⟩ hn) (fun _ => b0 (bX11_step_16 ⟨rfl, hI2⟩)))) (fun hn2 => absurd ⟨k, hk, e⟩ hn2)))
  · exact eX11_step _ _ (bX11_step_0 _ _ (r_isPerson d3.1 ht (fun k2 hk2 e2 => absurd ⟨k2, hk2, e2⟩ hn) (fun _ => b0 (bX11_step_16 ⟨rfl, hI2⟩))))
theorem op_ear (hI : IV M) (x y : Int32) : Cl κ mX10_ear [.ref 0, .int x, .int y] M (fun r M1 => Cl κ mX11_ear [.ref 119, .int x, .int y] M1 (fun r' M2 => r = r' ∧ IV M2)) := by
  have hI2 := hI
  obtain ⟨t, s, u, f, a, ht, hs, hu, ho, c1, c2, c3, d1, d2, d3⟩ := hI
  have hP := ht.2.1
  refine eX10_ear _ _ (bX10_ear_0 _ _ (s_hasPerson twO_1 c3.1 ht (fun k hk e => b1 ?_) (fun hn => b0 ?_)))
  · subst e
    have k8 : k < 8 := by omega
    have no : (¬ ∃ j, 0 ≤ j ∧ j ≤ 9 ∧ y = nI j) → G κ mX10_ear 24 [.null, .null, .null, .null] [] M (fun r M1 => Cl κ mX11_ear [.ref 119, .int (nI k), .int y] M1 (fun r' M2 => r = r' ∧ IV M2)) := fun hn =>
      bX10_ear_24 (eX11_ear _ _ (bX11_ear_0 _ _ (r_isPerson d3.1 ht (fun k2 hk2 e2 => b1 (r_inN 0 9 rfl rfl (by decide) (fun j k1 k2 e => absurd ⟨j, k1, k2, e⟩ hn) (fun _ => b0 ⟨rfl, hI2⟩))) (fun hn => absurd ⟨k, hk, rfl⟩ hn))))
    refine ⟨fun c => no (rg_lo (a := 0) (by decide) (by decide) c), fun c => ⟨fun c' => ?_, fun c' => no (rg_hi (by decide) c')⟩⟩
    obtain ⟨j, j1, j2, rfl⟩ := rg_in (a := 0) (b := 9) (by decide) (by decide) c c'
    refine s_remember stO_13 (by decide) c1 c2 (fun M1 fM1 pM1 => ?_)
    have c1' := c1.fr fM1 (by omega)
    rw [t8 k8, (c1'.2.2 k k8).2.1]
    refine ⟨v8 k8, ?_⟩
    rintro v4 rfl M2 rfl
    have fr2 : fr 13 87 M (pt M1 15 k (nI j)) := (fM1.up (by omega) (by omega)).pt (by omega) (by omega)
    have d1' := d1.fr fr2 (by omega)
    have d3' : RO _ t a := d3.fr fr2 (by decide)
    refine eX11_ear _ _ (bX11_ear_0 _ _ (r_isPerson d3'.1 ht (fun k2 hk2 e2 => b1 (r_inN 0 9 rfl rfl (by decide) (fun j' _ _ e => b1 ?_) (fun hn => absurd ⟨j, j1, j2, rfl⟩ hn))) (fun hn => absurd ⟨k, hk, rfl⟩ hn)))
    refine r_notes d1' (d2.fr fr2 (by decide)) (fun M3 g1 g2 g3 => ?_)
    have d1'' : Rv M3 122 0 s := d1'.blk (fun j _ => by rw [g1 122 (by decide) (by decide)])
    rw [show (10 : Int32) = nI 10 from rfl, two_tN (by omega), d1''.ea k8]
    refine ⟨two_in (by omega), ?_⟩
    rintro v4 rfl M5 rfl
    exact ⟨rfl, IV.done ht hs (okS_ea hs j2) hu ho c3 d3 fr2 (Sv_ea (o := 13) c1') (PaC_kept13 (hi := 17) pM1 (fr.rf.pt (by omega) (by omega))) (fun c h1 h2 h3 h4 => by rw [pt_c _ _ h2, g1 c h1 h3]) (fun q hq => by rw [pt_c _ _ (by decide), g2 q hq]) (Rv_ea k8 d1'') (g3.kept (by rw [pt_c _ _ (by decide)]) (pt_c _ _ (by decide)))⟩
  · exact eX11_ear _ _ (bX11_ear_0 _ _ (r_isPerson d3.1 ht (fun k2 hk2 e2 => absurd ⟨k2, hk2, e2⟩ hn) (fun _ => b0 ⟨rfl, hI2⟩)))
theorem op_deed (hI : IV M) (x : Int32) : Cl κ mX10_deed [.ref 0, .int x] M (fun r M1 => Cl κ mX11_deed [.ref 119, .int x] M1 (fun r' M2 => r = r' ∧ IV M2)) := by
  have hI2 := hI
  obtain ⟨t, s, u, f, a, ht, hs, hu, ho, c1, c2, c3, d1, d2, d3⟩ := hI
  have hP := ht.2.1
  refine eX10_deed _ (bX10_deed_0 _ (s_hasPerson twO_1 c3.1 ht (fun k hk e => b1 ?_) (fun hn => b0 ?_)))
  · subst e
    have k8 : k < 8 := by omega
    refine s_remember stO_13 (by decide) c1 c2 (fun M1 fM1 pM1 => ?_)
    have c1' := c1.fr fM1 (by omega)
    rw [t8 k8, (c1'.2.2 k k8).1, c1'.2.1, nI_or]
    refine ⟨v8 k8, ?_⟩
    rintro M2 rfl
    rw [pt_s]
    have fr2 : fr 13 87 M (pt M1 13 4 (nI (s.2.1 ||| s.2.2.1 k))) := (fM1.up (by omega) (by omega)).pt (by omega) (by omega)
    have d1' := d1.fr fr2 (by omega)
    have d3' : RO _ t a := d3.fr fr2 (by decide)
    refine eX11_deed _ (bX11_deed_0 _ (r_isPerson d3'.1 ht (fun k2 hk2 e2 => b1 ?_) (fun hn => absurd ⟨k, hk, rfl⟩ hn)))
    refine r_notes d1' (d2.fr fr2 (by decide)) (fun M3 g1 g2 g3 => ?_)
    have d1'' : Rv M3 122 0 s := d1'.blk (fun j _ => by rw [g1 122 (by decide) (by decide)])
    refine r_layersOf k8 d1'' ?_
    have h1 : M3 122 1 = nI s.2.1 := by have := d1''.2.1; rwa [Nat.zero_add] at this
    rw [h1, nI_or]
    rintro M5 rfl
    rw [pt_s]
    exact ⟨rfl, IV.done ht hs (okS_mk hs (or_lt hs.1.2.1 (hs.1.2.2.1 k))) hu ho c3 d3 fr2 (Sv_mk (o := 13) c1') (PaC_kept13 (hi := 17) pM1 (fr.rf.pt (by omega) (by omega))) (fun c h1 h2 h3 h4 => by rw [pt_c _ _ h2, g1 c h1 h3]) (fun q hq => by rw [pt_c _ _ (by decide), g2 q hq]) (Rv_mk d1'') (g3.kept (by rw [pt_c _ _ (by decide)]) (pt_c _ _ (by decide)))⟩
  · exact eX11_deed _ (bX11_deed_0 _ (r_isPerson d3.1 ht (fun k2 hk2 e2 => absurd ⟨k2, hk2, e2⟩ hn) (fun _ => b0 ⟨rfl, hI2⟩)))
theorem op_wipe (hI : IV M) : Cl κ mX10_wipe [.ref 0] M (fun r M1 => Cl κ mX11_wipe [.ref 119] M1 (fun r' M2 => r = r' ∧ IV M2)) := by
  have hI2 := hI
  obtain ⟨t, s, u, f, a, ht, hs, hu, ho, c1, c2, c3, d1, d2, d3⟩ := hI
  refine eX10_wipe (bX10_wipe_0 (s_isThere twO_1 c3.1 ht (fun hn => b1 ?_) (fun hn => b0 ?_)))
  · refine s_remember stO_13 (by decide) c1 c2 (fun M1 fM1 pM1 => ?_)
    have c1' := c1.fr fM1 (by omega)
    rw [c1'.2.1]
    rintro M2 rfl
    have fr2 : fr 13 87 M (pt M1 13 4 (nI 0)) := (fM1.up (by omega) (by omega)).pt (by omega) (by omega)
    have d1' := d1.fr fr2 (by omega)
    have d3' : RO _ t a := d3.fr fr2 (by decide)
    refine eX11_wipe (bX11_wipe_0 (r_isTown d3'.1 ht (fun _ => b1 ?_) (fun e => by omega)))
    refine r_notes d1' (d2.fr fr2 (by decide)) (fun M3 g1 g2 g3 => ?_)
    have d1'' : Rv M3 122 0 s := d1'.blk (fun j _ => by rw [g1 122 (by decide) (by decide)]; rfl)
    have h1 : M3 122 1 = nI s.2.1 := by have := d1''.2.1; rwa [Nat.zero_add] at this
    rw [h1]
    rintro M5 rfl
    exact ⟨rfl, IV.done ht hs (okS_mk hs (Nat.two_pow_pos _)) hu ho c3 d3 fr2 (Sv_mk (o := 13) c1') (PaC_kept13 (hi := 17) pM1 (fr.rf.pt (by omega) (by omega))) (fun c h1 h2 h3 h4 => by rw [pt_c _ _ h2, g1 c h1 h3]; rfl) (fun q hq => by rw [pt_c _ _ (by decide), g2 q hq]; rfl) (Rv_mk (v := 0) d1'') (g3.kept (by rw [pt_c _ _ (by decide)]) (pt_c _ _ (by decide)))⟩
  · exact eX11_wipe (bX11_wipe_0 (r_isTown d3.1 ht (fun e => by omega) (fun _ => b0 ⟨rfl, hI2⟩)))
theorem op_leave (hI : IV M) (x y : Int32) : Cl κ mX10_leave [.ref 0, .int x, .int y] M (fun r M1 => Cl κ mX11_leave [.ref 119, .int x, .int y] M1 (fun r' M2 => r = r' ∧ IV M2)) := by
  have hI2 := hI
  obtain ⟨t, s, u, f, a, ht, hs, hu, ho, c1, c2, c3, d1, d2, d3⟩ := hI
  have hP := ht.2.1
  have h9 := ht.n9
  refine eX10_leave _ _ (bX10_leave_0 _ _ (s_hasPerson twO_1 c3.1 ht (fun k hk e => b1 (s_hasLayer twO_1 c3.1 ht (fun j hj e' => b1 ?_) (fun hn => b0 (bX10_leave_22 ?_)))) (fun hn => b0 (bX10_leave_22 ?_))))
  · subst e; subst e'
    have k8 : k < 8 := by omega
    have hlt := hs.1.b512 ht k
    have p2 : 2 ^ j < 2 ^ 9 := Nat.pow_lt_pow_right (by decide) (by omega)
    rw [t8 k8, (c1.2.2 k k8).1, one_shl (by omega), nI_clr]
    refine ⟨v8 k8, ?_⟩
    rintro v3 rfl
    have no : ((s.2.2.1 k).testBit j = false ∨ s.2.2.1 k = 2 ^ j) → G κ mX10_leave 58 [.null, .null, .null, .null] [] M (fun r M1 => Cl κ mX11_leave [.ref 119, .int (nI k), .int (nI j)] M1 (fun r' M2 => r = r' ∧ IV M2)) := by
      intro hn
      refine bX10_leave_58 (eX11_leave _ _ (bX11_leave_0 _ _ (r_isPerson d3.1 ht (fun k2 hk2 e2 => b1 (r_isLayer d3.1 ht (fun j2 hj2 e3 => b1 ?_) (fun hn => absurd ⟨j, hj, rfl⟩ hn))) (fun hn => absurd ⟨k, hk, rfl⟩ hn))))
      refine r_isOn k8 (by omega) d1 (hs.1.b512 ht) (fun hb => b1 (r_layersOf k8 d1 ⟨fun _ => bX11_leave_39 ⟨rfl, hI2⟩, fun c => absurd ?_ c⟩)) (fun hb => b0 (bX11_leave_39 ⟨rfl, hI2⟩))
      rcases hn with hn | hn
      · rw [hb] at hn; cases hn
      · rw [one_shl (by omega), hn]
    have hxl : s.2.2.1 k ^^^ (s.2.2.1 k &&& 2 ^ j) < 2 ^ 9 := Nat.xor_lt_two_pow hlt (Nat.lt_of_le_of_lt Nat.and_le_left hlt)
    refine ⟨fun c => no (Or.inl ?_), fun c => ⟨fun c' => no ?_, fun c' => ?_⟩⟩
    · have e := nI_inj (by omega) (by omega) c
      have e2 : (s.2.2.1 k ^^^ (s.2.2.1 k &&& 2 ^ j)).testBit j = (s.2.2.1 k).testBit j := by rw [e]
      rw [Nat.testBit_xor, Nat.testBit_and, Nat.testBit_two_pow_self] at e2
      cases hb : (s.2.2.1 k).testBit j with
      | false => rfl
      | true => rw [hb] at e2; simp at e2
    · have e := nI_inj (b := 0) (by omega) (by decide) c'
      cases hb : (s.2.2.1 k).testBit j with
      | false => exact Or.inl rfl
      | true =>
        right
        apply Nat.eq_of_testBit_eq
        intro i
        have e2 : (s.2.2.1 k ^^^ (s.2.2.1 k &&& 2 ^ j)).testBit i = false := by rw [e]; simp
        rw [Nat.testBit_xor, Nat.testBit_and, Nat.testBit_two_pow] at e2
        rw [Nat.testBit_two_pow]
        by_cases eq : j = i
        · subst eq; simp [hb]
        · simp [eq] at e2 ⊢; exact e2
    · have hb : (s.2.2.1 k).testBit j = true := by
        cases hb : (s.2.2.1 k).testBit j with
        | true => rfl
        | false =>
          exact absurd (by rw [(and_p2 _ _).mpr hb, Nat.xor_zero]) c
      have ex : s.2.2.1 k ^^^ (s.2.2.1 k &&& 2 ^ j) = s.2.2.1 k ^^^ 2 ^ j := by
        have : s.2.2.1 k &&& 2 ^ j = 2 ^ j := by
          apply Nat.eq_of_testBit_eq
          intro i
          rw [Nat.testBit_and, Nat.testBit_two_pow]
          by_cases eq : j = i
          · subst eq; simp [hb]
          · simp [eq]
        rw [this]
      have hne : s.2.2.1 k ≠ 2 ^ j := fun e => c' (by rw [ex, e, Nat.xor_self]; rfl)
      rw [ex] at c' hxl ⊢
      have hpos : 0 < s.2.2.1 k ^^^ 2 ^ j := Nat.pos_of_ne_zero fun e => c' (by rw [e]; rfl)
      refine s_remember stO_13 (by decide) c1 c2 (fun M1 fM1 pM1 => ?_)
      have c1' := c1.fr fM1 (by omega)
      rintro M2 rfl
      have fr2 : fr 13 87 M (pt M1 14 k (nI (s.2.2.1 k ^^^ 2 ^ j))) := (fM1.up (by omega) (by omega)).pt (by omega) (by omega)
      have d1' := d1.fr fr2 (by omega)
      have d3' : RO _ t a := d3.fr fr2 (by decide)
      refine eX11_leave _ _ (bX11_leave_0 _ _ (r_isPerson d3'.1 ht (fun k2 hk2 e2 => b1 (r_isLayer d3'.1 ht (fun j2 hj2 e3 => b1 ?_) (fun hn => absurd ⟨j, hj, rfl⟩ hn))) (fun hn => absurd ⟨k, hk, rfl⟩ hn)))
      refine r_isOn k8 (by omega) d1' (hs.1.b512 ht) (fun _ => b1 (r_layersOf k8 d1' ⟨fun c => ?_, fun _ => ?_⟩)) (fun hb2 => by rw [hb] at hb2; cases hb2)
      · rw [one_shl (by omega)] at c
        exact absurd (nI_inj (by omega) (by omega) c) hne
      refine r_notes d1' (d2.fr fr2 (by decide)) (fun M3 g1 g2 g3 => ?_)
      have d1'' : Rv M3 122 0 s := d1'.blk (fun j _ => by rw [g1 122 (by decide) (by decide)])
      rw [show (2 : Int32) = nI 2 from rfl, two_tN (by omega), one_shl (by omega), d1''.la k8, nI_xor]
      refine ⟨two_in (by omega), ?_⟩
      rintro M5 rfl
      have rr := Rv_la (v := s.2.2.1 k ^^^ 2 ^ j) k8 d1''
      refine r_layersOf k8 rr ⟨?_, IV.done ht hs (okS_la hs hk (Nat.xor_lt_two_pow (hs.1.2.2.1 k) (Nat.pow_lt_pow_right (by decide) hj)) hpos) hu ho c3 d3 fr2 (Sv_la (o := 13) c1') (PaC_kept13 (hi := 17) pM1 (fr.rf.pt (by omega) (by omega))) (fun c h1 h2 h3 h4 => by rw [pt_c _ _ h2, g1 c h1 h3]) (fun q hq => by rw [pt_c _ _ (by decide), g2 q hq]) rr (g3.kept (by rw [pt_c _ _ (by decide)]) (pt_c _ _ (by decide)))⟩
      show _ = nI (if k = k then _ else _)
      rw [if_pos rfl]
  · exact eX11_leave _ _ (bX11_leave_0 _ _ (r_isPerson d3.1 ht (fun k2 hk2 e2 => b1 (r_isLayer d3.1 ht (fun j2 hj2 e3 => absurd ⟨j2, hj2, e3⟩ hn) (fun _ => b0 (bX11_leave_16 ⟨rfl, hI2⟩)))) (fun hn2 => absurd ⟨k, hk, e⟩ hn2)))
  · exact eX11_leave _ _ (bX11_leave_0 _ _ (r_isPerson d3.1 ht (fun k2 hk2 e2 => absurd ⟨k2, hk2, e2⟩ hn) (fun _ => b0 (bX11_leave_16 ⟨rfl, hI2⟩))))
end Ops3
