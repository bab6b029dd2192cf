section Ops4
variable {κ : gK} {M : MM}
theorem itS_ok {t : TW} (ht : twOk t) : ∀ (n : Nat) (s : ST), stOk t s → s.1 + n ≤ 1000000 → stOk t (itS (dawnS t) n s) ∧ (itS (dawnS t) n s).1 = s.1 + n := by
  intro n
  induction n with
  | zero => intro s h _; exact ⟨h, rfl⟩
  | succ n ih =>
    intro s h hd
    obtain ⟨a, b⟩ := ih (dawnS t s) (dawnS_ok ht h (by omega)) (by show s.1 + 1 + n ≤ _; omega)
    refine ⟨a, b.trans ?_⟩
    show s.1 + 1 + n = s.1 + (n + 1)
    omega
theorem s_refusal {t : TW} {s : ST} {Q : Int32 → MM → Prop} {x : Int32} (ht : twOk t) (hs : okS t s) (hT : Tw M 1 t) (hS : Sv M 13 s) (hout : (¬ ∃ k, 1 ≤ k ∧ k ≤ 60 ∧ x = nI k) → Q (-1000000002) M) (hno : ∀ k, 1 ≤ k → k ≤ 60 → x = nI k → t.1 = 0 → Q (-1000000003) M) (hfull : ∀ k, 1 ≤ k → k ≤ 60 → x = nI k → 2 ≤ t.1 → ¬ s.1 ≤ 9000 → Q (-1000000004) M) (hgo : ∀ k, 1 ≤ k → k ≤ 60 → x = nI k → 2 ≤ t.1 → s.1 ≤ 9000 → Q 0 M) : Cl κ mX10_refusalOfDawns [.ref 0, .int x] M Q := by
  have hd := hs.2
  refine eX10_refusalOfDawns _ (bX10_refusalOfDawns_0 _ ⟨fun c => bX10_refusalOfDawns_11 (hout (rg_lo (by decide) (by decide) c)), fun c => ⟨fun c' => ?_, fun c' => bX10_refusalOfDawns_11 (hout (rg_hi (by decide) c'))⟩⟩)
  obtain ⟨k, k1, k2, e⟩ := rg_in (a := 1) (b := 60) (by decide) (by decide) c c'
  refine s_isThere twO_1 hT ht (fun hn => b1 ?_) (fun hn => b0 (hno k k1 k2 e hn))
  rw [hS.1]
  refine ⟨fun c2 => bX10_refusalOfDawns_46 _ (hgo k k1 k2 e hn ((nI_leI (b := 9000) (by omega) (by decide)).mp c2)), fun c2 => bX10_refusalOfDawns_46 _ (hfull k k1 k2 e hn (fun h => c2 (nI_le (b := 9000) h (by decide))))⟩
theorem op_dawn (hI : IV M) (x : Int32) : Cl κ mX10_dawn [.ref 0, .int x] M (fun r M1 => Cl κ mX11_dawn [.ref 119, .int x] M1 (fun r' M2 => r = r' ∧ IV M2)) := by
  have hI2 := hI
  obtain ⟨t, s, u, f, a, ht, hs, hu, ho, c1, c2, c3, d1, d2, d3⟩ := hI
  have hd9 := hs.2
  have r0 : M 122 0 = nI s.1 := d1.1
  refine eX10_dawn _ (bX10_dawn_0 _ (s_refusal ht hs c3.1 c1 (fun hn => ⟨fun e => absurd e (by decide), fun _ => ?_⟩) (fun k k1 k2 e hn => ⟨fun e => absurd e (by decide), fun _ => ?_⟩) (fun k k1 k2 e hn hf => ⟨fun e => absurd e (by decide), fun _ => ?_⟩) (fun k k1 k2 e hn hf => b0 ?_)))
  · exact eX11_dawn _ (bX11_dawn_0 _ (r_inN 1 60 rfl rfl (by decide) (fun k k1 k2 e => absurd ⟨k, k1, k2, e⟩ hn) (fun _ => b0 ⟨rfl, hI2⟩)))
  · exact eX11_dawn _ (bX11_dawn_0 _ (r_inN 1 60 rfl rfl (by decide) (fun k _ _ _ => b1 (r_isTown d3.1 ht (fun e => by omega) (fun _ => b0 ⟨rfl, hI2⟩))) (fun hn2 => absurd ⟨k, k1, k2, e⟩ hn2)))
  · refine eX11_dawn _ (bX11_dawn_0 _ (r_inN 1 60 rfl rfl (by decide) (fun k _ _ _ => b1 (r_isTown d3.1 ht (fun _ => b1 ⟨fun c => ?_, fun _ => ⟨rfl, hI2⟩⟩) (fun e => by omega))) (fun hn2 => absurd ⟨k, k1, k2, e⟩ hn2)))
    rw [r0] at c
    exact absurd ((nI_leI (b := 9000) (by omega) (by decide)).mp c) hf
  · subst e
    refine s_remember stO_13 (by decide) c1 c2 (fun M1 fM1 pM1 => ?_)
    have c1' := c1.fr fM1 (by omega)
    obtain ⟨ok1, ok2⟩ := itS_ok ht k s hs.1 (by omega)
    refine up_ind k (fun j => ∀ Mj sj, fr 13 17 M1 Mj → Sv Mj 13 sj → stOk t sj → sj.1 + (k - j) ≤ 1000000 → itS (dawnS t) (k - j) sj = itS (dawnS t) k s → G κ mX10_dawn 25 [.ref 0, .int (nI k), .null, .int (nI j)] [] Mj (fun r M1 => Cl κ mX11_dawn [.ref 119, .int (nI k)] M1 (fun r' M2 => r = r' ∧ IV M2))) ?_ ?_ 0 (Nat.zero_le _) M1 s fr.rf c1' hs.1 (by omega) rfl
    · intro Mj sj hf2 hS2 hok _ e
      rw [Nat.sub_self] at e
      have e : sj = itS (dawnS t) k s := e
      refine bX10_dawn_25 _ _ ⟨fun _ => ?_, fun c => absurd (Int32.le_refl _) c⟩
      have fr2 : fr 13 87 M Mj := (fM1.up (by omega) (by omega)).tr (hf2.up (by omega) (by omega))
      have d1' := d1.fr fr2 (by omega)
      have d3' : RO _ t a := d3.fr fr2 (by decide)
      rw [hS2.1]
      refine eX11_dawn _ (bX11_dawn_0 _ (r_inN 1 60 rfl rfl (by decide) (fun _ _ _ _ => b1 (r_isTown d3'.1 ht (fun _ => b1 ⟨fun c => ?_, fun c => absurd ?_ c⟩) (fun e => by omega))) (fun hn2 => absurd ⟨k, k1, k2, rfl⟩ hn2)))
      · refine r_notes d1' (d2.fr fr2 (by decide)) (fun M3 g1 g2 g3 => ?_)
        have d1'' : Rv M3 122 0 s := d1'.blk (fun j _ => by rw [g1 122 (by decide) (by decide)])
        refine r_goesOn (by omega) (RO_notes d3' g1 g2).1 ht d1'' hs.1 (by omega) (fun M4 hf4 hR4 => ?_)
        have r4 : M4 122 0 = nI (itS (dawnS t) k s).1 := hR4.1
        rw [r4, e]
        refine ⟨rfl, IV.done ht hs ⟨ok1, by omega⟩ hu ho c3 d3 fr2 (e ▸ hS2) (PaC_kept13 pM1 hf2) (fun c h1 h2 h3 h4 => by rw [hf4 c (by omega), g1 c h1 h3]) (fun q hq => by rw [hf4 119 (by omega), g2 q hq]) hR4 (g3.kept (by rw [hf4 119 (by omega)]) (hf4 126 (by omega)))⟩
      · have : Mj 122 0 = nI s.1 := d1'.1
        rw [this]; exact nI_le (b := 9000) hf (by decide)
    · intro j hj ih Mj sj hf2 hS2 hok hdj e
      refine bX10_dawn_25 _ _ ⟨fun c => absurd c (nI_ge hj (by omega)), fun _ => ?_⟩
      refine s_passDawn stO_13 twO_1 (by decide) (by decide) ((c3.1.fr fM1 (by omega)).fr hf2 (by omega)) ht hn hS2 hok (fun M' hf' hS' => ?_)
      rw [nI_1]
      exact ih M' (dawnS t sj) (hf2.tr hf') hS' (dawnS_ok ht hok (by omega)) (by show sj.1 + 1 + _ ≤ _; omega) (by rw [← e, show k - j = (k - (j + 1)) + 1 by omega]; rfl)
theorem op_undo (hI : IV M) : Cl κ mX10_undo [.ref 0] M (fun r M1 => Cl κ mX11_undo [.ref 119] M1 (fun r' M2 => r = r' ∧ IV M2)) := by
  have hI2 := hI
  obtain ⟨t, s, u, f, a, ht, hs, hu, ho, c1, c2, c3, d1, d2, d3⟩ := hI
  obtain ⟨hu16, h19, hrow⟩ := id d2
  have h21 : M 21 2 = nI u := by obtain ⟨_, _, _, _, h, _⟩ := c2; exact h
  refine eX10_undo (bX10_undo_0 ⟨fun c => ?_, fun c => ?_⟩)
  · rw [h21] at c
    have e := nI_inj (b := 0) (by omega) (by decide) c
    exact eX11_undo (bX11_undo_0 ⟨fun _ => ⟨rfl, hI2⟩, fun c2 => absurd (by rw [h19, e]; rfl) c2⟩)
  · have hu0 : 0 < u := Nat.pos_of_ne_zero fun e => c (by rw [h21, e]; rfl)
    refine s_restore stO_13 (by decide) hu0 c2 (fun M1 k1 hS1 hP1 => ?_)
    have h21' : M1 21 2 = nI (u - 1) := by obtain ⟨_, _, _, _, h, _⟩ := hP1; exact h
    have e119 : ∀ c, 119 ≤ c → M1 c = M c := fun c hc => k1 c (by omega)
    rw [h21']
    refine eX11_undo (bX11_undo_0 ⟨fun c2 => ?_, fun _ => ?_⟩)
    · rw [e119 119 (by omega), h19] at c2
      exact absurd (nI_inj (b := 0) (by omega) (by decide) c2) (by omega)
    · rw [e119 119 (by omega), h19, show (1 : Int32) = nI 1 from rfl, pk_sub hu0]
      rintro M2 e2
      have h2 : M2 119 19 = nI (u - 1) := by rw [e2, pt_s]
      refine up_ind 26 (fun k => ∀ Mk, fr 122 123 M2 Mk → (∀ j, j < k → Mk 122 j = M2 126 (26 * (u - 1) + j)) → G κ mX11_undo 22 [.ref 119, .int (nI k)] [] Mk (fun r' M2 => nI (u - 1) = r' ∧ IV M2)) ?_ ?_ 0 (by decide) M2 fr.rf (fun j hj => absurd hj (by omega))
      · intro Mk hf he
        refine bX11_undo_22 _ ⟨fun _ => ?_, fun c => absurd (by decide) c⟩
        rw [hf 119 (by omega), h2]
        have r0 := hrow 0 hu0
        rw [Nat.sub_zero] at r0
        have hc : ∀ c, c < 119 → Mk c = M1 c := fun c hc => by rw [hf c (by omega), e2, pt_c _ _ (by omega)]
        refine ⟨rfl, t, f 0, u - 1, (fun j => f (j + 1)), a, ht, hu 0 hu0, fun j hj => hu (j + 1) (by omega), ho, hS1.kept (hc _ (by omega)) (hc _ (by omega)) (hc _ (by omega)) (hc _ (by omega)), ?_, ?_, ?_, ⟨by omega, by rw [hf 119 (by omega)]; exact h2, fun j hj => ?_⟩, ?_⟩
        · have : fr 119 200 M1 Mk := fun c hcc => by
            rcases hcc with h | h
            · exact hc c h
            · rw [hf c (by omega), e2, pt_c _ _ (by omega)]
          exact hP1.fr this (by omega)
        · exact c3.kept (fun c hcc => by
            unfold cC at hcc
            rw [hc c (by omega), k1 c (by omega)])
        · refine r0.blk (fun j hj => ?_)
          rw [Nat.zero_add, he j hj, e2, pt_c _ _ (by decide), e119 126 (by omega)]
        · have := hrow (j + 1) (by omega)
          refine this.blk (fun q hq => ?_)
          rw [hf 126 (by omega), e2, pt_c _ _ (by decide), e119 126 (by omega)]
          congr 1
          omega
        · refine d3.kept (fun c hcc => ?_) (fun q hq => ?_)
          · unfold cR at hcc
            rw [hf c (by omega), e2, pt_c _ _ (by omega), e119 c (by omega)]
          · unfold kR at hq
            rw [hf 119 (by omega), e2, pt_k _ _ (by omega), e119 119 (by omega)]
      · intro k hk ih Mk hf he
        have h2' : Mk 119 19 = nI (u - 1) := by rw [hf 119 (by omega)]; exact h2
        refine bX11_undo_22 _ ⟨fun c => absurd c (c26 hk), fun _ => ?_⟩
        rw [h2', show (26 : Int32) = nI 26 from rfl, pk_mul, nI_add, tNI (by omega), tNI (by omega), nI_1]
        refine ⟨vp_in_nI (by omega) (by decide), v26 hk, ?_⟩
        rintro M3 rfl
        refine ih _ (hf.pt (by omega) (by omega)) (fun j hj => ?_)
        by_cases e : j = k
        · subst e; rw [pt_s, hf 126 (by omega)]
        · rw [pt_k _ _ e]; exact he j (by omega)
theorem op_seed (hI : IV M) (x : Int32) : Cl κ mX10_seed [.ref 0, .int x] M (fun r M1 => Cl κ mX11_seed [.ref 119, .int x] M1 (fun r' M2 => r = r' ∧ IV M2)) := by
  have hI2 := hI
  obtain ⟨t, s, u, f, a, ht, hs, hu, ho, c1, c2, c3, d1, d2, d3⟩ := hI
  refine eX10_seed _ (bX10_seed_0 _ ⟨fun c => ?_, fun c => eX11_seed _ (bX11_seed_0 _ ⟨fun c2 => absurd c2 c, fun _ => ⟨rfl, hI2⟩⟩)⟩)
  obtain ⟨z, hz, rfl⟩ := nI_of (Int32.not_lt.mpr c)
  rintro M1 rfl
  refine eX11_seed _ (bX11_seed_0 _ ⟨fun _ => ?_, fun c2 => absurd c c2⟩)
  rintro M2 rfl
  have f1 : fr 0 1 M (pt M 0 13 (nI z)) := fr.rf.pt (by omega) (by omega)
  have f2 : fr 119 120 (pt M 0 13 (nI z)) (pt (pt M 0 13 (nI z)) 119 20 (nI z)) := fr.rf.pt (by omega) (by omega)
  refine ⟨?_, t, s, u, f, (a.1, a.2.1, a.2.2.1, z, a.2.2.2.2), ht, hs, hu, ⟨ho.1, ho.2.1, hz, ho.2.2.2⟩, (c1.fr f1 (by omega)).fr f2 (by omega), (c2.fr f1 (by omega)).fr f2 (by omega), CO_sd c3 (fun c _ hn => ?_) ?_ ?_, (d1.fr f1 (by omega)).fr f2 (by omega), (d2.fr f1 (by decide)).kept (pt_k _ _ (by decide)) (pt_c _ _ (by decide)), RO_sd (d3.fr f1 (by decide)) (fun c hc hn => ?_) (fun k hk hn => ?_) (pt_s _ _ _ _)⟩
  · rw [c3.2.2.2.2.1, pt_c _ _ (by decide), d3.2.2.2.2.1]
  · by_cases e : c = 119
    · unfold cC at *; omega
    · rw [pt_c _ _ e, pt_c _ _ hn]
  · rw [pt_c _ _ (by decide), pt_k _ _ (by decide)]
  · rw [pt_c _ _ (by decide), pt_s]
  · unfold cR at hc; rw [pt_c _ _ (by omega)]
  · rw [pt_k _ _ hn]
theorem op_tear (hI : IV M) : Cl κ mX10_tear [.ref 0] M (fun r M1 => Cl κ mX11_tear [.ref 119] M1 (fun r' M2 => r = r' ∧ IV M2)) := by
  obtain ⟨t, s, u, f, a, ht, hs, hu, ho, c1, c2, c3, d1, d2, d3⟩ := hI
  refine eX10_tear (bX10_tear_0 (eX10_tearAll (bX10_tearAll_0 ?_)))
  rintro v1 e1 M2 rfl M3 rfl M4 e4
  refine eX11_tear (bX11_tear_0 ?_)
  rintro v5 e5 M6 rfl M7 rfl M8 e8
  have f1 : fr 105 116 M M4 := by rw [e4]; exact ((fr.rf.pt (by omega) (by omega)).pt (by omega) (by omega)).pt (by omega) (by omega)
  have f2 : fr 119 120 M4 M8 := by rw [e8]; exact ((fr.rf.pt (by omega) (by omega)).pt (by omega) (by omega)).pt (by omega) (by omega)
  have bk : ∀ k, k ≠ 24 → k ≠ 26 → k ≠ 29 → M8 119 k = M4 119 k := fun k h1 h2 h3 => by rw [e8, pt_k _ _ h3, pt_k _ _ h2, pt_k _ _ h1]
  have k1 : ∀ c, c ≠ 105 → c ≠ 109 → c ≠ 115 → M4 c = M c := fun c h1 h2 h3 => by rw [e4, pt_c _ _ h3, pt_c _ _ h2, pt_c _ _ h1]
  have a4 : A4 := (0, fun _ => 0, fun _ => 0, fun _ => 0)
  have base : CO M8 t a → True := fun _ => trivial
  refine ⟨?_, t, s, u, f, (a.1, a.2.1, a.2.2.1, a.2.2.2.1, (0, fun _ => 0, fun _ => 0), (0, fun _ => 0, fun _ => 0, fun _ => 0), (0, fun _ => 0, fun _ => 0, fun _ => 0)), ht, hs, hu, ⟨ho.1, ho.2.1, ho.2.2.1, ⟨Nat.zero_le _, fun i hi => absurd hi (Nat.not_lt_zero i)⟩, ⟨Nat.zero_le _, fun i hi => absurd hi (Nat.not_lt_zero i)⟩, ⟨Nat.zero_le _, fun i hi => absurd hi (Nat.not_lt_zero i)⟩⟩, (c1.fr f1 (by omega)).fr f2 (by omega), (c2.fr f1 (by omega)).fr f2 (by omega), ?_, (d1.fr f1 (by omega)).fr f2 (by omega), (d2.fr f1 (by decide)).kept (bk 19 (by decide) (by decide) (by decide)) (f2 126 (by omega)), ?_⟩
  · rw [e1, e5, c3.2.2.2.2.2.1.1, c3.2.2.2.2.2.2.1.1, c3.2.2.2.2.2.2.2.1.1, f1 119 (by omega), d3.2.2.2.2.2.1.1, d3.2.2.2.2.2.2.1.1, d3.2.2.2.2.2.2.2.1]
  · obtain ⟨z1, z2, z3, z4, z5, z6, z7, z8, z9⟩ := c3
    have kk : ∀ c, c ≠ 105 → c ≠ 109 → c ≠ 115 → c < 119 → M8 c = M c := fun c h1 h2 h3 h4 => by rw [f2 c (by omega), k1 c h1 h2 h3]
    refine ⟨z1.kept (kk _ (by omega) (by omega) (by omega) (by omega)) (kk _ (by omega) (by omega) (by omega) (by omega)) (kk _ (by omega) (by omega) (by omega) (by omega)), fun i hi => ?_, ?_, ?_, ?_, ⟨?_, fun i hi => absurd hi (Nat.not_lt_zero i)⟩, ⟨?_, fun i hi => absurd hi (Nat.not_lt_zero i)⟩, ⟨?_, fun i hi => absurd hi (Nat.not_lt_zero i)⟩, ?_⟩
    · obtain ⟨a1, a2⟩ := z2 i hi
      refine ⟨by rw [kk 90 (by omega) (by omega) (by omega) (by omega)]; exact a1, fun hb => ?_⟩
      obtain ⟨b1, b2⟩ := a2 hb
      exact ⟨b1.kept (kk _ (by omega) (by omega) (by omega) (by omega)) (kk _ (by omega) (by omega) (by omega) (by omega)) (kk _ (by omega) (by omega) (by omega) (by omega)) (kk _ (by omega) (by omega) (by omega) (by omega)), by rw [kk 89 (by omega) (by omega) (by omega) (by omega)]; exact b2⟩
    · unfold TxC; rw [kk 11 (by omega) (by omega) (by omega) (by omega), kk 12 (by omega) (by omega) (by omega) (by omega)]; exact z3
    · rw [kk 0 (by omega) (by omega) (by omega) (by omega)]; exact z4
    · rw [kk 0 (by omega) (by omega) (by omega) (by omega)]; exact z5
    · rw [f2 105 (by omega), e4, pt_c _ _ (by decide), pt_c _ _ (by decide), pt_s]; rfl
    · rw [f2 109 (by omega), e4, pt_c _ _ (by decide), pt_s]; rfl
    · rw [f2 115 (by omega), e4, pt_s]; rfl
    · unfold StC; rw [kk 103 (by omega) (by omega) (by omega) (by omega)]; exact z9
  · obtain ⟨z1, z2, z3, z4, z5, z6, z7, z8⟩ := d3
    have kk : ∀ c, 120 ≤ c → M8 c = M c := fun c h => by rw [f2 c (by omega), f1 c (by omega)]
    have kq : ∀ k, k ≠ 24 → k ≠ 26 → k ≠ 29 → M8 119 k = M 119 k := fun k h1 h2 h3 => by rw [bk k h1 h2 h3, f1 119 (by omega)]
    refine ⟨?_, fun i hi => ?_, ?_, ?_, ?_, ⟨?_, fun i hi => absurd hi (Nat.not_lt_zero i)⟩, ⟨?_, fun i hi => absurd hi (Nat.not_lt_zero i)⟩, ⟨?_, fun i hi => absurd hi (Nat.not_lt_zero i)⟩⟩
    · unfold TwR; rw [kq 0 (by omega) (by omega) (by omega), kq 1 (by omega) (by omega) (by omega), kq 2 (by omega) (by omega) (by omega), kq 5 (by omega) (by omega) (by omega), kk 120 (by omega), kk 121 (by omega)]; exact z1
    · obtain ⟨a1, a2⟩ := z2 i hi
      refine ⟨by rw [kk 134 (by omega)]; exact a1, fun hb => ?_⟩
      obtain ⟨b1, b2⟩ := a2 hb
      exact ⟨b1.blk (fun j _ => by rw [kk 133 (by omega)]), by rw [kk 133 (by omega)]; exact b2⟩
    · unfold TxR; rw [kq 8 (by omega) (by omega) (by omega), kk 123 (by omega)]; exact z3
    · rw [kq 9 (by omega) (by omega) (by omega)]; exact z4
    · rw [kq 20 (by omega) (by omega) (by omega)]; exact z5
    · rw [e8, pt_k _ _ (by decide), pt_k _ _ (by decide), pt_s]; rfl
    · rw [e8, pt_k _ _ (by decide), pt_s]; rfl
    · rw [e8, pt_s]; rfl
end Ops4
