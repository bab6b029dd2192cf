/-! THE CLASS: Town -/
section Spec9
variable {κ : gK} {M : MM} {Q : Int32 → MM → Prop} {o : Nat} {t : TW}
theorem s_isThere (ho : twO o) (hT : Tw M o t) (hk : twOk t) (h1 : 2 ≤ t.1 → Q 1 M) (h0 : t.1 = 0 → Q 0 M) : Cl κ mX9_isThere [.ref o] M Q := by
  refine eX9_isThere o (bX9_isThere_0 o ho ⟨fun h => ?_, fun h => ?_⟩)
  · refine bX9_isThere_12 o ho 0 ⟨Or.inl rfl, h0 ?_⟩
    rw [hT.1] at h
    have := (nI_leI (b := 0) (by rcases hk.1 with a | a <;> omega) (by decide)).mp h
    omega
  · refine bX9_isThere_12 o ho 1 ⟨Or.inr rfl, h1 ?_⟩
    rcases hk.1 with a | a
    · exact absurd (by rw [hT.1, a.1]; decide) h
    · omega
theorem s_hasPerson {x : Int32} (ho : twO o) (hT : Tw M o t) (hk : twOk t) (h1 : ∀ k, k < t.2.2.1 → x = nI k → Q 1 M) (h0 : ¬ isIx x t.2.2.1 → Q 0 M) : Cl κ mX9_hasPerson [.ref o, .int x] M Q := by
  have hb : t.2.2.1 < 2 ^ 31 := by have := hk.2.1; omega
  have e16 : ¬ isIx x t.2.2.1 → G κ mX9_hasPerson 16 [.null, .null] [] M Q := fun h => bX9_hasPerson_16 o ho (bX9_hasPerson_17 o ho 0 ⟨Or.inl rfl, h0 h⟩)
  refine eX9_hasPerson o x (bX9_hasPerson_0 o ho x ⟨fun h => e16 ?_, fun h => ⟨fun h2 => e16 ?_, fun h2 => ?_⟩⟩)
  · rintro ⟨k, hk1, rfl⟩
    exact absurd h (nI_pos (by omega))
  · rintro ⟨k, hk1, rfl⟩
    rw [hT.2.2.1] at h2
    exact absurd h2 (nI_ge hk1 hb)
  · rw [hT.2.2.1] at h2
    obtain ⟨k, hk1, e⟩ := isIx_in h h2 hb
    exact bX9_hasPerson_17 o ho 1 ⟨Or.inr rfl, h1 k hk1 e⟩
theorem s_hasLayer {x : Int32} (ho : twO o) (hT : Tw M o t) (hk : twOk t) (h1 : ∀ k, k < t.1 → x = nI k → Q 1 M) (h0 : ¬ isIx x t.1 → Q 0 M) : Cl κ mX9_hasLayer [.ref o, .int x] M Q := by
  have hb : t.1 < 2 ^ 31 := by rcases hk.1 with a | a <;> omega
  have e16 : ¬ isIx x t.1 → G κ mX9_hasLayer 16 [.null, .null] [] M Q := fun h => bX9_hasLayer_16 o ho (bX9_hasLayer_17 o ho 0 ⟨Or.inl rfl, h0 h⟩)
  refine eX9_hasLayer o x (bX9_hasLayer_0 o ho x ⟨fun h => e16 ?_, fun h => ⟨fun h2 => e16 ?_, fun h2 => ?_⟩⟩)
  · rintro ⟨k, hk1, rfl⟩
    exact absurd h (nI_pos (by omega))
  · rintro ⟨k, hk1, rfl⟩
    rw [hT.1] at h2
    exact absurd h2 (nI_ge hk1 hb)
  · rw [hT.1] at h2
    obtain ⟨k, hk1, e⟩ := isIx_in h h2 hb
    exact bX9_hasLayer_17 o ho 1 ⟨Or.inr rfl, h1 k hk1 e⟩
theorem all_nI {P : Nat} (h : P ≤ 9) : jshl 1 (nI P) - 1 = nI (2 ^ P - 1) := by
  rw [show (1 : Int32) = nI 1 from rfl, jshl_nI (by omega), Nat.one_mul, pk_sub (Nat.one_le_two_pow)]
theorem s_allPersons (ho : twO o) (hT : Tw M o t) (hk : twOk t) (h : Q (nI (2 ^ t.2.2.1 - 1)) M) : Cl κ mX9_allPersons [.ref o] M Q := by
  refine eX9_allPersons o (bX9_allPersons_0 o ho ?_)
  rw [hT.2.2.1, all_nI (by have := hk.2.1; omega)]; exact h
/-- the bits that a set has besides those of a mask are none just when it is a number of the mask -/
theorem mask_out {P : Nat} (hP : P ≤ 9) (x : Int32) : x &&& (nI (2 ^ P - 1) ^^^ (-1)) = 0 ↔ isIx x (2 ^ P) := by
  have hp := p2le hP
  constructor
  · intro h
    have hx : x = x &&& nI (2 ^ P - 1) := by
      apply b_extQ
      intro i hi
      have h2 : (x &&& (nI (2 ^ P - 1) ^^^ (-1))).toBitVec.getLsbD i = (0 : Int32).toBitVec.getLsbD i := by rw [h]
      rw [Int32.toBitVec_and, BitVec.getLsbD_and, Int32.toBitVec_xor, BitVec.getLsbD_xor, b_m1Q i hi] at h2
      rw [Int32.toBitVec_and, BitVec.getLsbD_and]
      have h3 : (0 : Int32).toBitVec.getLsbD i = false := BitVec.getLsbD_zero
      rw [h3] at h2
      generalize x.toBitVec.getLsbD i = a at *
      generalize (nI (2 ^ P - 1)).toBitVec.getLsbD i = b at *
      cases a <;> cases b <;> simp_all
    rw [hx, pk_and x P (by show (BitVec.ofNat 32 _).toNat = _; rw [BitVec.toNat_ofNat]; exact Nat.mod_eq_of_lt (by omega))]
    exact ⟨_, Nat.mod_lt _ (Nat.two_pow_pos P), rfl⟩
  · rintro ⟨k, hk, rfl⟩
    apply b_extQ
    intro i hi
    rw [Int32.toBitVec_and, BitVec.getLsbD_and, Int32.toBitVec_xor, BitVec.getLsbD_xor, b_m1Q i hi]
    have h3 : (0 : Int32).toBitVec.getLsbD i = false := BitVec.getLsbD_zero
    rw [h3, nI_bv, nI_bv, BitVec.getLsbD_ofNat, BitVec.getLsbD_ofNat, Nat.testBit_two_pow_sub_one]
    by_cases c : i < P
    · simp [c, hi]
    · rw [Nat.testBit_lt_two_pow (Nat.lt_of_lt_of_le hk (Nat.pow_le_pow_right (by decide) (by omega)))]
      simp
theorem s_hasAll {x : Int32} (ho : twO o) (hT : Tw M o t) (hk : twOk t) (h1 : ∀ k, k < 2 ^ t.2.2.1 → x = nI k → Q 1 M) (h0 : ¬ isIx x (2 ^ t.2.2.1) → Q 0 M) : Cl κ mX9_hasAll [.ref o, .int x] M Q := by
  refine eX9_hasAll o x (bX9_hasAll_0 o ho x (s_allPersons ho hT hk ⟨fun h => ?_, fun h => ?_⟩))
  · obtain ⟨k, hk1, e⟩ := (mask_out (by have := hk.2.1; omega) x).mp h
    exact bX9_hasAll_16 o ho 1 ⟨Or.inr rfl, h1 k hk1 e⟩
  · exact bX9_hasAll_16 o ho 0 ⟨Or.inl rfl, h0 (fun e => h ((mask_out (by have := hk.2.1; omega) x).mpr e))⟩
theorem s_lightOf {day : Nat} (ho : twO o) (hT : Tw M o t) (hk : twOk t) (hd : day < 2 ^ 31) (h1 : 2 ≤ t.1 → Q (nI (lightF t day)) M) (h0 : t.1 = 0 → Q 0 M) : Cl κ mX9_lightOf [.ref o, .int (nI day)] M Q := by
  refine eX9_lightOf o _ (bX9_lightOf_0 o ho _ (s_isThere ho hT hk (fun hn => b1 ⟨fun h => ?_, fun h => ?_⟩) (fun hn => b0 (h0 hn))))
  · refine bX9_lightOf_31 o ho 5 ?_
    have := h1 hn
    rw [hT.2.2.2.1] at h
    have h2 := (nI_leI (b := 0) (by have := hk.2.2.1; omega) (by decide)).mp h
    unfold lightF at this
    rw [if_pos (by omega)] at this
    exact this
  · rw [hT.2.2.2.1] at h ⊢
    have hD : 0 < t.2.2.2.1 := Nat.pos_of_ne_zero fun e => h (by rw [e]; decide)
    have hD2 := hk.2.2.1
    have hm : day % t.2.2.2.1 < t.2.2.2.1 := Nat.mod_lt _ hD
    refine ⟨nI_ne0 hD (by omega), ?_⟩
    rw [irm_nI hd hD (by omega), tNI (by omega)]
    refine ⟨vp_in_nI (by omega) (by decide), bX9_lightOf_31 o ho _ ?_⟩
    rw [hT.2.2.2.2.2 _ hm]
    have := h1 hn
    unfold lightF at this
    rw [if_neg (by omega)] at this
    exact this
theorem s_strideOf {k : Nat} (ho : twO o) (hT : Tw M o t) (hk : twOk t) (hk4 : k < 2 ^ 31) (h : Q (nI (strd t.1 k)) M) : Cl κ mX9_strideOf [.ref o, .int (nI k)] M Q := by
  refine eX9_strideOf o _ (bX9_strideOf_0 o ho _ ⟨fun h1 => ⟨fun h2 => ?_, fun h2 => ?_, fun h2 => ?_⟩, fun h1 => ?_⟩)
  all_goals (rw [hT.1] at h1; try rw [hT.1])
  · rcases hk.1 with a | a
    · rw [a.1] at h1; exact absurd h1 (by decide)
    refine ⟨nI_ne0 (by omega) (by omega), ?_⟩
    rw [show (2 : Int32) = nI 2 from rfl, irm_nI (by decide) (by omega) (by omega)]
    have := nI_inj (b := 1) hk4 (by decide) h2
    unfold strd at h
    rw [if_neg (by omega), if_pos this] at h
    exact h
  · rcases hk.1 with a | a
    · rw [a.1] at h1; exact absurd h1 (by decide)
    have := nI_inj (b := 3) hk4 (by decide) h2
    unfold strd at h
    rw [if_neg (by omega), if_neg (by omega), if_pos this] at h
    rw [show (1 : Int32) = nI 1 from rfl, pk_sub (by omega)]
    exact h
  · rcases hk.1 with a | a
    · rw [a.1] at h1; exact absurd h1 (by decide)
    unfold strd at h
    rw [if_neg (by omega), if_neg (fun e => h2.1 (by rw [e]; rfl)), if_neg (fun e => h2.2 (by rw [e]; rfl))] at h
    exact h
  · rcases hk.1 with a | a
    · unfold strd at h
      rw [if_pos a.1] at h
      exact h
    · exact absurd (nI_lt (a := 0) (by omega) (by omega)) h1
theorem rot_nI {n x k : Nat} (hn : 1 ≤ n) (hn9 : n ≤ 9) (hk : k ≤ n) (hx : x < 2 ^ n) : ((jshl (nI x) (nI k)) ||| (jshr (nI x) (nI n - nI k))) &&& ((jshl 1 (nI n)) - 1) = nI (rotN n x k) := by
  have hp := p2le hn9
  rw [pk_sub hk, jshl_nI (by omega), jshr_nI (by omega) (by omega), all_nI hn9, nI_or, nI_and, Nat.and_two_pow_sub_one_eq_mod]
  unfold rotN
  rw [if_neg (by omega)]
theorem s_goneOn {x k : Nat} (ho : twO o) (hT : Tw M o t) (hk : twOk t) (hkn : k ≤ t.1) (hx : x < 2 ^ t.1) (h : Q (nI (rotN t.1 x k)) M) : Cl κ mX9_goneOn [.ref o, .int (nI x), .int (nI k)] M Q := by
  refine eX9_goneOn o _ _ (bX9_goneOn_0 o ho _ _ ⟨fun h1 => ?_, fun h1 => ?_⟩)
  all_goals rw [hT.1] at h1
  · rcases hk.1 with a | a
    · rw [a.1] at h1; exact absurd h1 (by decide)
    rw [hT.1, rot_nI (by omega) a.2.1 hkn hx]
    exact h
  · rcases hk.1 with a | a
    · unfold rotN at h
      rw [if_pos a.1] at h
      exact h
    · exact absurd (nI_lt (a := 0) (by omega) (by omega)) h1
theorem s_behindCrow {k x day : Nat} (ho : twO o) (hT : Tw M o t) (hk : twOk t) (hk4 : k ≤ 4) (hx : x < 2 ^ t.1) (hd : day < 2 ^ 31) (hn : 2 ≤ t.1 ∨ k ≠ 2) (h : Q (nI (crowF t.1 k x day)) M) : Cl κ mX9_behindCrow [.ref o, .int (nI k), .int (nI x), .int (nI day)] M Q := by
  have h27 : k ≠ 2 → ¬ (k = 4 ∧ day % 2 ≠ 0) → G κ mX9_behindCrow 27 [.ref o, .int (nI k), .int (nI x), .null] [] M Q := by
    intro c1 c2
    refine bX9_behindCrow_27 o ho _ _ (s_strideOf ho hT hk (by omega) (s_goneOn ho hT hk ?_ hx ?_))
    · rcases hk.1 with a | a
      · unfold strd; rw [if_pos a.1]; omega
      · exact Nat.le_of_lt (strd_le a.1)
    · unfold crowF at h
      rw [if_neg c1, if_neg c2] at h
      exact h
  refine eX9_behindCrow o _ _ _ (bX9_behindCrow_0 o ho _ _ _ ⟨fun h1 => ?_, fun h1 => ⟨fun h2 => ⟨fun h3 => ?_, fun h3 => ?_⟩, fun h2 => ?_⟩⟩)
  · have e := nI_inj (b := 2) (by omega) (by decide) h1
    rw [show (1 : Int32) = nI 1 from rfl]
    refine s_goneOn ho hT hk (by omega) hx ?_
    rw [nI_or]
    unfold crowF at h
    rw [if_pos e] at h
    exact h
  · have e := nI_inj (b := 4) (by omega) (by decide) h2
    rw [show (2 : Int32) = nI 2 from rfl, irm_nI hd (by decide) (by decide)] at h3
    have := nI_inj (b := 0) (by omega) (by decide) h3
    exact h27 (by omega) (by omega)
  · have e := nI_inj (b := 4) (by omega) (by decide) h2
    rw [show (2 : Int32) = nI 2 from rfl, irm_nI hd (by decide) (by decide)] at h3
    unfold crowF at h
    rw [if_neg (by omega), if_pos ⟨e, fun e2 => h3 (by rw [e2]; rfl)⟩] at h
    exact h
  · exact h27 (fun e => h1 (by rw [e]; rfl)) (fun e => h2 (by rw [e.1]; rfl))
end Spec9
