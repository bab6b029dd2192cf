section Drift
variable {κ : gK} {M : MM} {t : TW} {s : ST}
def dZ (z : Nat) : Nat := (z * 1103515245 + 12345) % 2 ^ 31
theorem dZ_lt (z : Nat) : dZ z < 2 ^ 31 := Nat.mod_lt _ (by decide)
theorem lN_and (a b : Nat) : lN a &&& lN b = lN (a &&& b) := by
  apply Int64.toBitVec_inj.mp
  show BitVec.ofNat 64 a &&& BitVec.ofNat 64 b = BitVec.ofNat 64 (a &&& b)
  apply BitVec.eq_of_toNat_eq
  simp [BitVec.toNat_and, Nat.and_mod_two_pow]
theorem s_draw {n z : Nat} {Q : Int32 → MM → Prop} (hn : 0 < n) (hn2 : n < 2 ^ 31) (h13 : M 0 13 = nI z) (h : ∀ M', M' = pt M 0 13 (nI (dZ z)) → Q (nI (dZ z / 65536 % n)) M') : Cl κ mX10_draw [.ref 0, .int (nI n)] M Q := by
  have hz := dZ_lt z
  refine eX10_draw _ (bX10_draw_0 _ ⟨fun _ => ?_, fun c => absurd (nI_lt (a := 0) hn hn2) c⟩)
  rw [h13, show (1103515245 : Int32) = nI 1103515245 from rfl, pk_mul, show (12345 : Int32) = nI 12345 from rfl, nI_add, show (2147483647 : Int32) = nI (2 ^ 31 - 1) from rfl, nI_and, Nat.and_two_pow_sub_one_eq_mod]
  rintro M1 e1
  have : M1 0 13 = nI (dZ z) := by rw [e1, pt_s]; rfl
  rw [this, show (65536 : Int32) = nI 65536 from rfl, pk_div hz (by decide) (by decide), irm_nI (by omega) hn hn2]
  exact ⟨nI_ne0 hn hn2, h M1 e1⟩
theorem r_draw {n z : Nat} {Q : Int32 → MM → Prop} (hn : 0 < n) (hn2 : n < 2 ^ 31) (hz0 : z < 2 ^ 31) (h13 : M 119 20 = nI z) (h : ∀ M', M' = pt M 119 20 (nI (dZ z)) → Q (nI (dZ z / 65536 % n)) M') : Cl κ mX11_draw [.ref 119, .int (nI n)] M Q := by
  have hz := dZ_lt z
  refine eX11_draw _ (bX11_draw_0 _ ?_)
  rw [h13, nI_l hz0, show (1103515245 : Int64) = lN 1103515245 from rfl, lN_mul, show (12345 : Int64) = lN 12345 from rfl, lN_add, show (2147483647 : Int64) = lN (2 ^ 31 - 1) from rfl, lN_and, Nat.and_two_pow_sub_one_eq_mod, lN_i]
  rintro M1 e1
  have : M1 119 20 = nI (dZ z) := by rw [e1, pt_s]; rfl
  rw [this, show (65536 : Int32) = nI 65536 from rfl, pk_div hz (by decide) (by decide), irm_nI (by omega) hn hn2]
  exact ⟨nI_ne0 hn hn2, h M1 e1⟩
theorem s_drw {dz : Nat → Nat} (HDE : dz = dZ) {n z : Nat} {Q : Int32 → MM → Prop} (hn : 0 < n) (hn2 : n < 2 ^ 31) (h13 : M 0 13 = nI z) (h : ∀ M', M' = pt M 0 13 (nI (dz z)) → Q (nI (dz z / 65536 % n)) M') : Cl κ mX10_draw [.ref 0, .int (nI n)] M Q := by
  subst HDE
  exact s_draw hn hn2 h13 h
theorem r_drw {dz : Nat → Nat} (HDE : dz = dZ) {n z : Nat} {Q : Int32 → MM → Prop} (hn : 0 < n) (hn2 : n < 2 ^ 31) (hz0 : z < 2 ^ 31) (h13 : M 119 20 = nI z) (h : ∀ M', M' = pt M 119 20 (nI (dz z)) → Q (nI (dz z / 65536 % n)) M') : Cl κ mX11_draw [.ref 119, .int (nI n)] M Q := by
  subst HDE
  exact r_draw hn hn2 hz0 h13 h
/-- what a draw does ahead of a dawn: the seed and the state behind it -/
def chS (dz : Nat → Nat) (t : TW) (z : Nat) (s : ST) : Nat × ST :=
  if dz z / 65536 % 5 = 0 then (dz (dz (dz z)), (s.1, s.2.1, upN s.2.2.1 (dz (dz z) / 65536 % t.2.2.1) (2 ^ (dz (dz (dz z)) / 65536 % t.1)), s.2.2.2.1, s.2.2.2.2))
  else if dz z / 65536 % 5 = 1 then (dz (dz (dz z)), (s.1, s.2.1, s.2.2.1, upN s.2.2.2.1 (dz (dz z) / 65536 % t.2.2.1) (dz (dz (dz z)) / 65536 % 10), s.2.2.2.2))
  else if dz z / 65536 % 5 = 2 then (dz (dz z), (s.1, s.2.1 ||| s.2.2.1 (dz (dz z) / 65536 % t.2.2.1), s.2.2))
  else if dz z / 65536 % 5 = 3 then (dz (dz (dz z)), crowS t (1 + dz (dz (dz z)) / 65536 % 9) 8 s)
  else (dz (dz z), s)
theorem okS_crow {light : Nat} (ht : twOk t) (h : okS t s) : okS t (crowS t light 8 s) := ⟨crowS_ok ht h.1, h.2⟩
theorem stOk_okS (h : stOk t s) (f : okS t (0, s.2) → okS t (0, s.2)) : stOk t s := h
theorem chS_ok {z : Nat} {dz : Nat → Nat} (HDZ : ∀ z, dz z < 2 ^ 31) (ht : twOk t) (hP : 0 < t.2.2.1) (h : stOk t s) : stOk t (chS dz t z s).2 ∧ (chS dz t z s).2.1 = s.1 ∧ (chS dz t z s).1 < 2 ^ 31 := by
  have hn : 2 ≤ t.1 := by rcases ht.1 with q | q <;> omega
  have hp : dz (dz z) / 65536 % t.2.2.1 < t.2.2.1 := Nat.mod_lt _ hP
  obtain ⟨h1, h2, h3, h4, h5, h6, h7⟩ := h
  unfold chS
  split
  · refine ⟨⟨h1, h2, fun q => ?_, fun q hq => ?_, fun q hq => ?_, h6, h7⟩, rfl, HDZ _⟩
    · show (if _ then _ else _) < _
      split
      · exact Nat.pow_lt_pow_right (by decide) (Nat.mod_lt _ (by omega))
      · exact h3 q
    · show 0 < (if _ then _ else _)
      split
      · exact Nat.two_pow_pos _
      · exact h4 q hq
    · show (if _ then _ else _) = 0
      rw [if_neg (by omega)]; exact h5 q hq
  · split
    · refine ⟨⟨h1, h2, h3, h4, h5, fun q => ?_, h7⟩, rfl, HDZ _⟩
      show (if _ then _ else _) ≤ _
      split
      · exact Nat.le_of_lt_succ (Nat.mod_lt _ (by decide))
      · exact h6 q
    · split
      · exact ⟨⟨h1, or_lt h2 (h3 _), h3, h4, h5, h6, h7⟩, rfl, HDZ _⟩
      · split
        · exact ⟨crowS_ok ht ⟨h1, h2, h3, h4, h5, h6, h7⟩, rfl, HDZ _⟩
        · exact ⟨⟨h1, h2, h3, h4, h5, h6, h7⟩, rfl, HDZ _⟩
theorem sw5 (w : Nat) (hw : w < 5) (A0 A1 A2 A3 A4 : Prop) (h0 : w = 0 → A0) (h1 : w = 1 → A1) (h2 : w = 2 → A2) (h3 : w = 3 → A3) (h4 : w = 4 → A4) : (nI w = 0 → A0) ∧ (nI w = 1 → A1) ∧ (nI w = 2 → A2) ∧ (nI w = 3 → A3) ∧ ((∀ k : Nat, k ≤ 3 → nI w ≠ nI k) → A4) :=
  ⟨fun c => h0 (nI_inj (b := 0) (by omega) (by decide) c), fun c => h1 (nI_inj (b := 1) (by omega) (by decide) c), fun c => h2 (nI_inj (b := 2) (by omega) (by decide) c), fun c => h3 (nI_inj (b := 3) (by omega) (by decide) c), fun c => h4 (by
    rcases Nat.lt_or_ge w 4 with q | q
    · exact absurd rfl (c w (by omega))
    · omega)⟩
theorem s_doByDraws {dz : Nat → Nat} (HDE : dz = dZ) {z : Nat} {Q : Int32 → MM → Prop} (ht : twOk t) (hP : 0 < t.2.2.1) (hT : Tw M 1 t) (hS : Sv M 13 s) (hs : stOk t s) (h13 : M 0 13 = nI z) (h : ∀ M', (∀ c, c ≠ 0 → (c < 13 ∨ 17 ≤ c) → M' c = M c) → M' 0 12 = M 0 12 → M' 0 13 = nI (chS dz t z s).1 → Sv M' 13 (chS dz t z s).2 → Q 0 M') : Cl κ mX10_doByDraws [.ref 0] M Q := by
  have hP8 := ht.2.1
  have h9 := ht.n9
  have hn : 2 ≤ t.1 := by rcases ht.1 with q | q <;> omega
  have hp : dz (dz z) / 65536 % t.2.2.1 < t.2.2.1 := Nat.mod_lt _ hP
  refine eX10_doByDraws (bX10_doByDraws_0 (s_drw HDE (n := 5) (by decide) (by decide) h13 ?_))
  rintro M1 e1
  have t1 : M1 1 6 = nI t.2.2.1 := by rw [e1, pt_c _ _ (by decide)]; exact hT.2.2.1
  rw [t1]
  refine s_drw HDE hP (by omega) (by rw [e1, pt_s]) ?_
  rintro M2 e2
  rw [e1] at e2
  have k2 : ∀ c, c ≠ 0 → M2 c = M c := fun c hc => by rw [e2, pt_c _ _ hc, pt_c _ _ hc]
  have k12 : M2 0 12 = M 0 12 := by rw [e2, pt_k _ _ (by decide), pt_k _ _ (by decide)]
  have k13 : M2 0 13 = nI (dz (dz z)) := by rw [e2, pt_s]
  have t4 : M2 1 4 = nI t.1 := by rw [k2 1 (by decide)]; exact hT.1
  have hS2 : Sv M2 13 s := hS.kept (k2 _ (by omega)) (k2 _ (by omega)) (k2 _ (by omega)) (k2 _ (by omega))
  have hT2 : Tw M2 1 t := hT.kept (k2 _ (by omega)) (k2 _ (by omega)) (k2 _ (by omega))
  rw [t4]
  have p8 : dz (dz z) / 65536 % t.2.2.1 < 8 := by omega
  unfold chS at h
  refine sw5 _ (Nat.mod_lt _ (by decide)) _ _ _ _ _ (fun c => ?_) (fun c => ?_) (fun c => ?_) (fun c => ?_) (fun c => bX10_doByDraws_138 ?_)
  · rw [if_pos c] at h
    generalize dz (dz z) / 65536 % t.2.2.1 = p at *
    refine s_drw HDE (by omega) (by omega) k13 ?_
    rintro M3 e3
    have hm := Nat.mod_lt (dz (dz (dz z)) / 65536) (show 0 < t.1 by omega)
    rw [t8 p8, one_shl (by omega)]
    refine ⟨v8 p8, ?_⟩
    rintro M4 e4
    refine bX10_doByDraws_138 (h M4 (fun c hc1 hc2 => ?_) ?_ ?_ ?_)
    · rw [e4, pt_c _ _ (by omega), e3, pt_c _ _ hc1, k2 c hc1]
    · rw [e4, pt_c _ _ (by decide), e3, pt_k _ _ (by decide), k12]
    · rw [e4, pt_c _ _ (by decide), e3, pt_s]
    · rw [e4]
      exact Sv_la (o := 13) (hS2.kept (by rw [e3, pt_c _ _ (by decide)]) (by rw [e3, pt_c _ _ (by decide)]) (by rw [e3, pt_c _ _ (by decide)]) (by rw [e3, pt_c _ _ (by decide)]))
  · rw [if_neg (by omega), if_pos c] at h
    generalize dz (dz z) / 65536 % t.2.2.1 = p at *
    refine s_drw HDE (n := 10) (by decide) (by decide) k13 ?_
    rintro M3 e3
    rw [t8 p8]
    refine ⟨v8 p8, ?_⟩
    rintro M4 e4
    refine bX10_doByDraws_138 (h M4 (fun c hc1 hc2 => ?_) ?_ ?_ ?_)
    · rw [e4, pt_c _ _ (by omega), e3, pt_c _ _ hc1, k2 c hc1]
    · rw [e4, pt_c _ _ (by decide), e3, pt_k _ _ (by decide), k12]
    · rw [e4, pt_c _ _ (by decide), e3, pt_s]
    · rw [e4]
      exact Sv_ea (o := 13) (hS2.kept (by rw [e3, pt_c _ _ (by decide)]) (by rw [e3, pt_c _ _ (by decide)]) (by rw [e3, pt_c _ _ (by decide)]) (by rw [e3, pt_c _ _ (by decide)]))
  · rw [if_neg (by omega), if_neg (by omega), if_pos c] at h
    generalize dz (dz z) / 65536 % t.2.2.1 = p at *
    rw [t8 p8, hS2.2.1, (hS2.2.2 p p8).1, nI_or]
    refine ⟨v8 p8, ?_⟩
    rintro M4 e4
    refine bX10_doByDraws_138 (h M4 (fun c hc1 hc2 => ?_) ?_ ?_ ?_)
    · rw [e4, pt_c _ _ (by omega), k2 c hc1]
    · rw [e4, pt_c _ _ (by decide), k12]
    · rw [e4, pt_c _ _ (by decide), k13]
    · rw [e4]; exact Sv_mk (o := 13) hS2
  · rw [if_neg (by omega), if_neg (by omega), if_neg (by omega), if_pos c] at h
    refine s_drw HDE (n := 9) (by decide) (by decide) k13 ?_
    rintro M3 e3
    have k3 : ∀ c, c ≠ 0 → M3 c = M2 c := fun c hc => by rw [e3, pt_c _ _ hc]
    have hm := Nat.mod_lt (dz (dz (dz z)) / 65536) (show 0 < 9 by decide)
    rw [show (1 : Int32) = nI 1 from rfl, nI_add]
    refine s_hearCrow stO_13 twO_1 (by decide) (by decide) (hT2.kept (k3 _ (by omega)) (k3 _ (by omega)) (k3 _ (by omega))) ht (hS2.kept (k3 _ (by omega)) (k3 _ (by omega)) (k3 _ (by omega)) (k3 _ (by omega))) hs (by omega) (fun M4 f4 s4 => ?_)
    refine bX10_doByDraws_138 (h M4 (fun c hc1 hc2 => ?_) ?_ ?_ s4)
    · rw [f4 c (by omega), k3 c hc1, k2 c hc1]
    · rw [f4 0 (by omega), e3, pt_k _ _ (by decide), k12]
    · rw [f4 0 (by omega), e3, pt_s]
  · rw [if_neg (by omega), if_neg (by omega), if_neg (by omega), if_neg (by omega)] at h
    exact h M2 (fun c hc1 _ => k2 c hc1) k12 k13 hS2
theorem r_chances {dz : Nat → Nat} (HDE : dz = dZ) (HDZ : ∀ z, dz z < 2 ^ 31) {z : Nat} {Q : Int32 → MM → Prop} (hz : z < 2 ^ 31) (ht : twOk t) (hP : 0 < t.2.2.1) (hT : TwR M t) (hR : Rv M 122 0 s) (hs : stOk t s) (h20 : M 119 20 = nI z) (h : ∀ M', (∀ c, c ≠ 119 → c ≠ 122 → M' c = M c) → (∀ k, k ≠ 20 → M' 119 k = M 119 k) → M' 119 20 = nI (chS dz t z s).1 → Rv M' 122 0 (chS dz t z s).2 → Q 0 M') : Cl κ mX11_chances [.ref 119] M Q := by
  have hP8 := ht.2.1
  have h9 := ht.n9
  have hn : 2 ≤ t.1 := by rcases ht.1 with q | q <;> omega
  have hp : dz (dz z) / 65536 % t.2.2.1 < t.2.2.1 := Nat.mod_lt _ hP
  refine eX11_chances (bX11_chances_0 (r_drw HDE (n := 5) (by decide) (by decide) hz h20 ?_))
  rintro M1 e1
  have t1 : M1 119 2 = nI t.2.2.1 := by rw [e1, pt_k _ _ (by decide)]; exact hT.2.2.1
  rw [t1]
  refine r_drw HDE hP (by omega) (HDZ _) (by rw [e1, pt_s]) ?_
  rintro M2 e2
  rw [e1] at e2
  have k2 : ∀ c, c ≠ 119 → M2 c = M c := fun c hc => by rw [e2, pt_c _ _ hc, pt_c _ _ hc]
  have kk : ∀ k, k ≠ 20 → M2 119 k = M 119 k := fun k hk => by rw [e2, pt_k _ _ hk, pt_k _ _ hk]
  have k13 : M2 119 20 = nI (dz (dz z)) := by rw [e2, pt_s]
  have t4 : M2 119 0 = nI t.1 := by rw [kk 0 (by decide)]; exact hT.1
  have hR2 : Rv M2 122 0 s := hR.blk (fun j _ => by rw [k2 122 (by decide)])
  have hT2 : TwR M2 t := by
    unfold TwR; rw [kk 0 (by decide), kk 1 (by decide), kk 2 (by decide), kk 5 (by decide), k2 120 (by decide), k2 121 (by decide)]; exact hT
  rw [t4]
  have p8 : dz (dz z) / 65536 % t.2.2.1 < 8 := by omega
  unfold chS at h
  refine sw5 _ (Nat.mod_lt _ (by decide)) _ _ _ _ _ (fun c => ?_) (fun c => ?_) (fun c => ?_) (fun c => ?_) (fun c => bX11_chances_119 ?_)
  · rw [if_pos c] at h
    generalize dz (dz z) / 65536 % t.2.2.1 = p at *
    refine r_drw HDE (by omega) (by omega) (HDZ _) k13 ?_
    rintro M3 e3
    have hm := Nat.mod_lt (dz (dz (dz z)) / 65536) (show 0 < t.1 by omega)
    rw [show (2 : Int32) = nI 2 from rfl, two_tN (by omega), one_shl (by omega)]
    refine ⟨two_in (by omega), ?_⟩
    rintro M4 e4
    refine bX11_chances_119 (h M4 (fun c hc1 hc2 => ?_) (fun k hk => ?_) ?_ ?_)
    · rw [e4, pt_c _ _ hc2, e3, pt_c _ _ hc1, k2 c hc1]
    · rw [e4, pt_c _ _ (by decide), e3, pt_k _ _ hk, kk k hk]
    · rw [e4, pt_c _ _ (by decide), e3, pt_s]
    · rw [e4]; exact Rv_la p8 (hR2.blk (fun j _ => by rw [e3, pt_c _ _ (by decide)]))
  · rw [if_neg (by omega), if_pos c] at h
    generalize dz (dz z) / 65536 % t.2.2.1 = p at *
    refine r_drw HDE (n := 10) (by decide) (by decide) (HDZ _) k13 ?_
    rintro M3 e3
    rw [show (10 : Int32) = nI 10 from rfl, two_tN (by omega)]
    refine ⟨two_in (by omega), ?_⟩
    rintro M4 e4
    refine bX11_chances_119 (h M4 (fun c hc1 hc2 => ?_) (fun k hk => ?_) ?_ ?_)
    · rw [e4, pt_c _ _ hc2, e3, pt_c _ _ hc1, k2 c hc1]
    · rw [e4, pt_c _ _ (by decide), e3, pt_k _ _ hk, kk k hk]
    · rw [e4, pt_c _ _ (by decide), e3, pt_s]
    · rw [e4]; exact Rv_ea p8 (hR2.blk (fun j _ => by rw [e3, pt_c _ _ (by decide)]))
  · rw [if_neg (by omega), if_neg (by omega), if_pos c] at h
    generalize dz (dz z) / 65536 % t.2.2.1 = p at *
    have m1 : M2 122 1 = nI s.2.1 := by have := hR2.2.1; rwa [Nat.zero_add] at this
    refine r_layersOf p8 hR2 ?_
    rw [m1, nI_or]
    rintro M4 e4
    refine bX11_chances_119 (h M4 (fun c hc1 hc2 => ?_) (fun k hk => ?_) ?_ ?_)
    · rw [e4, pt_c _ _ hc2, k2 c hc1]
    · rw [e4, pt_c _ _ (by decide), kk k hk]
    · rw [e4, pt_c _ _ (by decide), k13]
    · rw [e4]; exact Rv_mk hR2
  · rw [if_neg (by omega), if_neg (by omega), if_neg (by omega), if_pos c] at h
    refine r_drw HDE (n := 9) (by decide) (by decide) (HDZ _) k13 ?_
    rintro M3 e3
    have k3 : ∀ c, c ≠ 119 → M3 c = M2 c := fun c hc => by rw [e3, pt_c _ _ hc]
    have kk3 : ∀ k, k ≠ 20 → M3 119 k = M2 119 k := fun k hk => by rw [e3, pt_k _ _ hk]
    have hm := Nat.mod_lt (dz (dz (dz z)) / 65536) (show 0 < 9 by decide)
    rw [show (1 : Int32) = nI 1 from rfl, nI_add]
    have hT3 : TwR M3 t := by
      unfold TwR; rw [kk3 0 (by decide), kk3 1 (by decide), kk3 2 (by decide), kk3 5 (by decide), k3 120 (by decide), k3 121 (by decide)]; exact hT2
    refine r_sounds hT3 ht (hR2.blk (fun j _ => by rw [k3 122 (by decide)])) hs (by omega) (fun M4 f4 s4 => ?_)
    refine bX11_chances_119 (h M4 (fun c hc1 hc2 => ?_) (fun k hk => ?_) ?_ s4)
    · rw [f4 c (by omega), k3 c hc1, k2 c hc1]
    · rw [f4 119 (by omega), kk3 k hk, kk k hk]
    · rw [f4 119 (by omega), e3, pt_s]
  · rw [if_neg (by omega), if_neg (by omega), if_neg (by omega), if_neg (by omega)] at h
    exact h M2 (fun c hc1 _ => k2 c hc1) kk k13 hR2
def drS (dz : Nat → Nat) (t : TW) (q : Nat × ST) : Nat × ST := if t.2.2.1 = 0 then (q.1, dawnS t q.2) else ((chS dz t q.1 q.2).1, dawnS t (chS dz t q.1 q.2).2)
def itD (dz : Nat → Nat) (t : TW) : Nat → Nat × ST → Nat × ST
  | 0, q => q
  | k + 1, q => itD dz t k (drS dz t q)
theorem drS_ok {q : Nat × ST} {dz : Nat → Nat} (HDZ : ∀ z, dz z < 2 ^ 31) (ht : twOk t) (h : stOk t q.2) (hz : q.1 < 2 ^ 31) (hd : q.2.1 < 1000000) : stOk t (drS dz t q).2 ∧ (drS dz t q).1 < 2 ^ 31 ∧ (drS dz t q).2.1 = q.2.1 + 1 := by
  unfold drS
  split
  · exact ⟨dawnS_ok ht h hd, hz, rfl⟩
  · obtain ⟨a, b, c⟩ := chS_ok HDZ (z := q.1) ht (by omega) h
    refine ⟨dawnS_ok ht a (by omega), c, ?_⟩
    show (chS dz t q.1 q.2).2.1 + 1 = _
    rw [b]
theorem itD_ok {dz : Nat → Nat} (HDZ : ∀ z, dz z < 2 ^ 31) (ht : twOk t) : ∀ (n : Nat) (q : Nat × ST), stOk t q.2 → q.1 < 2 ^ 31 → q.2.1 + n ≤ 1000000 → stOk t (itD dz t n q).2 ∧ (itD dz t n q).1 < 2 ^ 31 ∧ (itD dz t n q).2.1 = q.2.1 + n := by
  intro n
  induction n with
  | zero => intro q h hz _; exact ⟨h, hz, rfl⟩
  | succ n ih =>
    intro q h hz hd
    obtain ⟨a, b, c⟩ := drS_ok HDZ ht h hz (by omega)
    obtain ⟨a2, b2, c2⟩ := ih (drS dz t q) a b (by omega)
    exact ⟨a2, b2, c2.trans (by omega)⟩
theorem op_drift (hI : IV M) (x : Int32) : Cl κ mX10_drift [.ref 0, .int x] M (fun r M1 => Cl κ mX11_drift [.ref 119, .int x] M1 (fun r' M2 => r = r' ∧ IV M2)) := by
  have hI2 := hI
  obtain ⟨t, s, u, f, a, ht, hs, hu, ho, c1, c2, c3, d1, d2, d3⟩ := hI
  obtain ⟨dz, HDE, HDZ⟩ : ∃ dz : Nat → Nat, dz = dZ ∧ ∀ z, dz z < 2 ^ 31 := ⟨dZ, rfl, dZ_lt⟩
  have hd9 := hs.2
  have hP8 := ht.2.1
  have r0 : M 122 0 = nI s.1 := d1.1
  refine eX10_drift _ (bX10_drift_0 _ (s_refusal ht hs c3.1 c1 (fun hn => ⟨fun e => absurd e (by decide), fun _ => ?_⟩) (fun k k1 k2 e hn => ⟨fun e => absurd e (by decide), fun _ => ?_⟩) (fun k k1 k2 e hn hf => ⟨fun e => absurd e (by decide), fun _ => ?_⟩) (fun k k1 k2 e hn hf => b0 ?_)))
  · exact eX11_drift _ (bX11_drift_0 _ (r_inN 1 60 rfl rfl (by decide) (fun k k1 k2 e => absurd ⟨k, k1, k2, e⟩ hn) (fun _ => b0 ⟨rfl, hI2⟩)))
  · exact eX11_drift _ (bX11_drift_0 _ (r_inN 1 60 rfl rfl (by decide) (fun k _ _ _ => b1 (r_isTown d3.1 ht (fun e => by omega) (fun _ => b0 ⟨rfl, hI2⟩))) (fun hn2 => absurd ⟨k, k1, k2, e⟩ hn2)))
  · refine eX11_drift _ (bX11_drift_0 _ (r_inN 1 60 rfl rfl (by decide) (fun k _ _ _ => b1 (r_isTown d3.1 ht (fun _ => b1 ⟨fun c => ?_, fun _ => ⟨rfl, hI2⟩⟩) (fun e => by omega))) (fun hn2 => absurd ⟨k, k1, k2, e⟩ hn2)))
    rw [r0] at c
    exact absurd ((nI_leI (b := 9000) (by omega) (by decide)).mp c) hf
  · subst e
    obtain ⟨z, hz, hzl⟩ : ∃ z : Nat, z = a.2.2.2.1 ∧ z < 2 ^ 31 := ⟨_, rfl, ho.2.2.1⟩
    obtain ⟨ok1, ok2, ok3⟩ := itD_ok HDZ ht k (z, s) hs.1 hzl (by show s.1 + k ≤ _; omega)
    have ok3 : (itD dz t k (z, s)).2.1 = s.1 + k := ok3
    refine s_remember stO_13 (by decide) c1 c2 (fun M1 fM1 pM1 => ?_)
    have c1' := c1.fr fM1 (by omega)
    -- the class's loop
    have loop : ∀ m j Mj q, j + m = k → (∀ c, c ≠ 0 → (c < 13 ∨ 17 ≤ c) → Mj c = M1 c) → Mj 0 12 = M1 0 12 → Mj 0 13 = nI q.1 → Sv Mj 13 q.2 → stOk t q.2 → q.1 < 2 ^ 31 → q.2.1 + m ≤ 1000000 → itD dz t m q = itD dz t k (z, s) → G κ mX10_drift 25 [.ref 0, .int (nI k), .null, .int (nI j)] [] Mj (fun r M1 => Cl κ mX11_drift [.ref 119, .int (nI k)] M1 (fun r' M2 => r = r' ∧ IV M2)) := by
      intro m
      induction m with
      | zero =>
        intro j Mj q hjm g1 g2 g3 g4 g5 g6 g7 e
        have hj : j = k := by omega
        subst hj
        have e : q = itD dz t j (z, s) := e
        refine bX10_drift_25 _ _ ⟨fun _ => ?_, fun c => absurd (Int32.le_refl _) c⟩
        rw [g4.1]
        have gg : ∀ c, c ≠ 0 → (c < 13 ∨ 87 ≤ c) → Mj c = M c := fun c h1 h2 => by rw [g1 c h1 (by omega), fM1 c (by omega)]
        have d1' : Rv Mj 122 0 s := d1.blk (fun i _ => by rw [gg 122 (by decide) (by decide)])
        have d2' : PaR Mj u f := d2.kept (by rw [gg 119 (by decide) (by decide)]) (gg 126 (by decide) (by decide))
        have d3' : RO Mj t a := d3.kept (fun c hc => by unfold cR at hc; exact gg c (by omega) (by omega)) (fun i _ => by rw [gg 119 (by decide) (by decide)])
        refine eX11_drift _ (bX11_drift_0 _ (r_inN 1 60 rfl rfl (by decide) (fun _ _ _ _ => b1 (r_isTown d3'.1 ht (fun _ => b1 ⟨fun c => ?_, fun c => absurd ?_ c⟩) (fun e => by omega))) (fun hn2 => absurd ⟨j, k1, k2, rfl⟩ hn2)))
        · refine r_notes d1' d2' (fun M3 w1 w2 w3 => ?_)
          have d1'' : Rv M3 122 0 s := d1'.blk (fun i _ => by rw [w1 122 (by decide) (by decide)])
          have d3'' : RO M3 t a := RO_notes d3' w1 w2
          have h20 : M3 119 20 = nI z := by rw [hz]; exact d3''.2.2.2.2.1
          -- the reference's loop
          have loop2 : ∀ m i Mi p, i + m = j → (∀ c, c ≠ 119 → c ≠ 122 → Mi c = M3 c) → (∀ x, x ≠ 20 → Mi 119 x = M3 119 x) → Mi 119 20 = nI p.1 → Rv Mi 122 0 p.2 → stOk t p.2 → p.1 < 2 ^ 31 → p.2.1 + m ≤ 1000000 → itD dz t m p = itD dz t j (z, s) → G κ mX11_drift 46 [.ref 119, .int (nI j), .int (nI i)] [] Mi (fun r' M2 => nI q.2.1 = r' ∧ IV M2) := by
            intro m
            induction m with
            | zero =>
              intro i Mi p him y1 y2 y3 y4 y5 y6 y7 e2
              have hi : i = j := by omega
              subst hi
              have e2 : p = itD dz t i (z, s) := e2
              refine bX11_drift_46 _ _ ⟨fun _ => ?_, fun c => absurd (Int32.le_refl _) c⟩
              have r4 : Mi 122 0 = nI p.2.1 := y4.1
              have epq : p = q := e2.trans e.symm
              rw [r4, epq]
              refine ⟨rfl, t, q.2, min (u + 1) 16, consF s f, (a.1, a.2.1, a.2.2.1, q.1, a.2.2.2.2), ht, ⟨g5, by rw [e]; omega⟩, fun v hv => ?_, ⟨ho.1, ho.2.1, g6, ho.2.2.2⟩, ?_, ?_, CO_sd c3 (fun c hc hn0 => ?_) ?_ ?_, epq ▸ y4, ?_, RO_sd d3'' (fun c hc hn0 => ?_) (fun x _ hn0 => y2 x hn0) (by rw [y3, epq])⟩
              · match v, hv with
                | 0, _ => exact hs
                | v + 1, hv => exact hu v (by omega)
              · refine g4.kept ?_ ?_ ?_ ?_ <;> rw [y1 _ (by omega) (by omega), w1 _ (by omega) (by omega)]
              · have hc : ∀ c, c ≠ 0 → (c < 13 ∨ 17 ≤ c) → c < 119 → Mi c = M1 c := fun c h1 h2 h3 => by rw [y1 c (by omega) (by omega), w1 c (by omega) (by omega), g1 c h1 h2]
                obtain ⟨q1, x1, q2, q3, q4, q5⟩ := pM1
                refine ⟨q1, x1, q2, by rw [hc 21 (by omega) (by omega) (by omega)]; exact q3, by rw [hc 21 (by omega) (by omega) (by omega)]; exact q4, fun v hv => ?_⟩
                have := Nat.mod_lt (x1 + 15 - v) (show 0 < 16 by decide)
                exact (q5 v hv).kept (hc _ (by omega) (by omega) (by omega)) (hc _ (by omega) (by omega) (by omega)) (hc _ (by omega) (by omega) (by omega)) (hc _ (by omega) (by omega) (by omega))
              · unfold cC at hc; rw [y1 c (by omega) (by omega), w1 c (by omega) (by omega), gg c hn0 (by omega)]
              · rw [y1 0 (by decide) (by decide), w1 0 (by decide) (by decide), g2, fM1 0 (by omega)]
              · rw [y1 0 (by decide) (by decide), w1 0 (by decide) (by decide), g3]
              · exact w3.kept (y2 19 (by decide)) (y1 126 (by decide) (by decide))
              · unfold cR at hc; exact y1 c (by omega) (by omega)
            | succ m ih =>
              intro i Mi p him y1 y2 y3 y4 y5 y6 y7 e2
              have hTi : TwR Mi t := by
                unfold TwR; rw [y2 0 (by decide), y2 1 (by decide), y2 2 (by decide), y2 5 (by decide), y1 120 (by decide) (by decide), y1 121 (by decide) (by decide)]; exact d3''.1
              obtain ⟨v1, v2, v3⟩ := drS_ok HDZ ht y5 y6 (by omega)
              refine bX11_drift_46 _ _ ⟨fun c => absurd c (nI_ge (by omega) (by omega)), fun _ => ?_⟩
              rw [hTi.2.2.1]
              refine ⟨fun c => bX11_drift_62 _ _ ?_, fun c => ?_⟩
              · have hP0 : t.2.2.1 = 0 := by have := (nI_leI (b := 0) (by omega) (by decide)).mp c; omega
                refine r_goesOn (n := 1) (by decide) hTi ht y4 y5 (by omega) (fun M' f' r' => ?_)
                rw [nI_1]
                have ed : drS dz t p = (p.1, dawnS t p.2) := by unfold drS; rw [if_pos hP0]
                refine ih (i + 1) M' (drS dz t p) (by omega) (fun c h1 h2 => by rw [f' c (by omega), y1 c h1 h2]) (fun x hx => by rw [f' 119 (by omega), y2 x hx]) (by rw [f' 119 (by omega), y3, ed]) (by rw [ed]; exact r') v1 v2 (by omega) e2
              · have hP0 : 0 < t.2.2.1 := Nat.pos_of_ne_zero fun q => c (by rw [q]; decide)
                obtain ⟨o1, o2, o3⟩ := chS_ok HDZ (z := p.1) ht hP0 y5
                refine r_chances HDE HDZ y6 ht hP0 hTi y4 y5 y3 (fun M4 h1 h2 h3 h4 => bX11_drift_62 _ _ ?_)
                have hT4 : TwR M4 t := by
                  unfold TwR; rw [h2 0 (by decide), h2 1 (by decide), h2 2 (by decide), h2 5 (by decide), h1 120 (by decide) (by decide), h1 121 (by decide) (by decide)]; exact hTi
                refine r_goesOn (n := 1) (by decide) hT4 ht h4 o1 (by omega) (fun M' f' r' => ?_)
                rw [nI_1]
                have ed : drS dz t p = ((chS dz t p.1 p.2).1, dawnS t (chS dz t p.1 p.2).2) := by unfold drS; rw [if_neg (by omega)]
                refine ih (i + 1) M' (drS dz t p) (by omega) (fun c q1 q2 => by rw [f' c (by omega), h1 c q1 q2, y1 c q1 q2]) (fun x hx => by rw [f' 119 (by omega), h2 x hx, y2 x hx]) (by rw [f' 119 (by omega), h3, ed]) (by rw [ed]; exact r') v1 v2 (by omega) e2
          exact loop2 j 0 M3 (z, s) (by omega) (fun _ _ _ => rfl) (fun _ _ => rfl) h20 d1'' hs.1 hzl (by show s.1 + j ≤ _; omega) rfl
        · have : Mj 122 0 = nI s.1 := d1'.1
          rw [this]; exact nI_le (b := 9000) hf (by decide)
      | succ m ih =>
        intro j Mj q hjm g1 g2 g3 g4 g5 g6 g7 e
        have hTj : Tw Mj 1 t := (c3.1.fr fM1 (by omega)).kept (g1 _ (by omega) (by omega)) (g1 _ (by omega) (by omega)) (g1 _ (by omega) (by omega))
        obtain ⟨v1, v2, v3⟩ := drS_ok HDZ ht g5 g6 (by omega)
        refine bX10_drift_25 _ _ ⟨fun c => absurd c (nI_ge (by omega) (by omega)), fun _ => ?_⟩
        rw [hTj.2.2.1]
        refine ⟨fun c => bX10_drift_44 _ _ ?_, fun c => ?_⟩
        · have hP0 : t.2.2.1 = 0 := by have := (nI_leI (b := 0) (by omega) (by decide)).mp c; omega
          refine s_passDawn stO_13 twO_1 (by decide) (by decide) hTj ht hn g4 g5 (fun M' f' S' => ?_)
          rw [nI_1]
          have ed : drS dz t q = (q.1, dawnS t q.2) := by unfold drS; rw [if_pos hP0]
          exact ih (j + 1) M' (drS dz t q) (by omega) (fun c h1 h2 => by rw [f' c (by omega), g1 c h1 h2]) (by rw [f' 0 (by omega), g2]) (by rw [f' 0 (by omega), g3, ed]) (by rw [ed]; exact S') v1 v2 (by omega) e
        · have hP0 : 0 < t.2.2.1 := Nat.pos_of_ne_zero fun q => c (by rw [q]; decide)
          obtain ⟨o1, o2, o3⟩ := chS_ok HDZ (z := q.1) ht hP0 g5
          refine s_doByDraws HDE ht hP0 hTj g4 g5 g3 (fun M4 h1 h2 h3 h4 => bX10_drift_44 _ _ ?_)
          refine s_passDawn stO_13 twO_1 (by decide) (by decide) (hTj.kept (h1 _ (by omega) (by omega)) (h1 _ (by omega) (by omega)) (h1 _ (by omega) (by omega))) ht hn h4 o1 (fun M' f' S' => ?_)
          rw [nI_1]
          have ed : drS dz t q = ((chS dz t q.1 q.2).1, dawnS t (chS dz t q.1 q.2).2) := by unfold drS; rw [if_neg (by omega)]
          exact ih (j + 1) M' (drS dz t q) (by omega) (fun c q1 q2 => by rw [f' c (by omega), h1 c q1 q2, g1 c q1 q2]) (by rw [f' 0 (by omega), h2, g2]) (by rw [f' 0 (by omega), h3, ed]) (by rw [ed]; exact S') v1 v2 (by omega) e
    exact loop k 0 M1 (z, s) (by omega) (fun _ _ _ => rfl) rfl (by rw [fM1 0 (by omega), hz]; exact c3.2.2.2.2.1) c1' hs.1 hzl (by show s.1 + k ≤ _; omega) rfl
end Drift
