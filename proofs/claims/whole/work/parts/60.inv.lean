/-! WHAT HOLDS BETWEEN CALLS: both objects' cells mean the same things -/
abbrev AX : Type := (Nat → Bool) × (Nat → ST) × (Nat → Nat)
abbrev AT : Type := Nat × (Nat → Nat)
abbrev A3 : Type := Nat × (Nat → Nat) × (Nat → Nat)
abbrev A4 : Type := Nat × (Nat → Nat) × (Nat → Nat) × (Nat → Nat)
/-- images, text, the place of the fault, the seed, shadows, who met, the book -/
abbrev AO : Type := AX × AT × Int32 × Nat × A3 × A4 × A4
def ImC (M : MM) (a : AX) : Prop := ∀ i, i < 2 → M 90 i = nI (a.1 i).toNat ∧ (a.1 i = true → Sv M (91 + 4 * i) (a.2.1 i) ∧ M 89 i = nI (a.2.2 i))
def ImR (M : MM) (a : AX) : Prop := ∀ i, i < 2 → M 134 i = nI (a.1 i).toNat ∧ (a.1 i = true → Rv M 133 (27 * i) (a.2.1 i) ∧ M 133 (27 * i + 26) = nI (a.2.2 i))
def TxC (M : MM) (a : AT) : Prop := M 11 1 = nI a.1 ∧ ∀ i, i < a.1 → M 12 i = nI (a.2 i)
def TxR (M : MM) (a : AT) : Prop := M 119 8 = nI a.1 ∧ ∀ i, i < a.1 → M 123 i = nI (a.2 i)
def ShC (M : MM) (a : A3) : Prop := M 105 3 = nI a.1 ∧ ∀ i, i < a.1 → M 106 i = nI (a.2.1 i) ∧ M 107 i = nI (a.2.2 i)
def ShR (M : MM) (a : A3) : Prop := M 119 24 = nI a.1 ∧ ∀ i, i < a.1 → M 129 (2 * i) = nI (a.2.1 i) ∧ M 129 (2 * i + 1) = nI (a.2.2 i)
def MeC (M : MM) (a : A4) : Prop := M 109 5 = nI a.1 ∧ ∀ i, i < a.1 → M 110 i = nI (a.2.1 i) ∧ M 111 i = nI (a.2.2.1 i) ∧ M 112 i = nI (a.2.2.2 i)
def MeR (M : MM) (a : A4) : Prop := M 119 26 = nI a.1 ∧ ∀ i, i < a.1 → M 130 (3 * i) = nI (a.2.1 i) ∧ M 130 (3 * i + 1) = nI (a.2.2.1 i) ∧ M 130 (3 * i + 2) = nI (a.2.2.2 i)
def BoC (M : MM) (a : A4) : Prop := M 115 3 = nI a.1 ∧ ∀ i, i < a.1 → M 116 i = nI (a.2.1 i) ∧ M 117 i = nI (a.2.2.1 i) ∧ M 118 i = nI (a.2.2.2 i)
def BoR (M : MM) (a : A4) : Prop := M 119 29 = nI a.1 ∧ ∀ i, i < a.1 → M 132 (3 * i) = nI (a.2.1 i) ∧ M 132 (3 * i + 1) = nI (a.2.2.1 i) ∧ M 132 (3 * i + 2) = nI (a.2.2.2 i)
def StC (M : MM) : Prop := ∀ k, 2304 ≤ k → k < 2560 → M 103 k = nI 0
def CO (M : MM) (t : TW) (a : AO) : Prop := Tw M 1 t ∧ ImC M a.1 ∧ TxC M a.2.1 ∧ M 0 12 = a.2.2.1 ∧ M 0 13 = nI a.2.2.2.1 ∧ ShC M a.2.2.2.2.1 ∧ MeC M a.2.2.2.2.2.1 ∧ BoC M a.2.2.2.2.2.2 ∧ StC M
def RO (M : MM) (t : TW) (a : AO) : Prop := TwR M t ∧ ImR M a.1 ∧ TxR M a.2.1 ∧ M 119 9 = a.2.2.1 ∧ M 119 20 = nI a.2.2.2.1 ∧ ShR M a.2.2.2.2.1 ∧ MeR M a.2.2.2.2.2.1 ∧ BoR M a.2.2.2.2.2.2
def okS (t : TW) (s : ST) : Prop := stOk t s ∧ s.1 ≤ 9060
def okO (t : TW) (a : AO) : Prop := (∀ i, i < 2 → a.1.1 i = true → okS t (a.1.2.1 i) ∧ a.1.2.2 i < 2 ^ 31) ∧ (a.2.1.1 ≤ 240 ∧ ∀ i, i < a.2.1.1 → a.2.1.2 i ≤ 255) ∧ a.2.2.2.1 < 2 ^ 31 ∧
  (a.2.2.2.2.1.1 ≤ 6 ∧ ∀ i, i < a.2.2.2.2.1.1 → 1 ≤ a.2.2.2.2.1.2.1 i ∧ a.2.2.2.2.1.2.1 i ≤ 9 ∧ a.2.2.2.2.1.2.2 i < t.1) ∧
  (a.2.2.2.2.2.1.1 ≤ 10 ∧ ∀ i, i < a.2.2.2.2.2.1.1 → a.2.2.2.2.2.1.2.1 i < t.2.2.1 ∧ a.2.2.2.2.2.1.2.2.1 i < t.2.2.1 ∧ a.2.2.2.2.2.1.2.1 i ≠ a.2.2.2.2.2.1.2.2.1 i ∧ a.2.2.2.2.2.1.2.2.2 i ≤ 1) ∧
  (a.2.2.2.2.2.2.1 ≤ 15 ∧ ∀ i, i < a.2.2.2.2.2.2.1 → a.2.2.2.2.2.2.2.1 i < t.2.2.1 ∧ a.2.2.2.2.2.2.2.2.1 i < t.1 ∧ a.2.2.2.2.2.2.2.2.2 i ≤ 1)
def okU (t : TW) (u : Nat) (f : Nat → ST) : Prop := ∀ j, j < u → okS t (f j)
/-- the invariant of the law's loop -/
def IV (M : MM) : Prop := ∃ (t : TW) (s : ST) (u : Nat) (f : Nat → ST) (a : AO), twOk t ∧ okS t s ∧ okU t u f ∧ okO t a ∧ Sv M 13 s ∧ PaC M u f ∧ CO M t a ∧ Rv M 122 0 s ∧ PaR M u f ∧ RO M t a
/-- the cells that the class's other things stand in -/
def cC (c : Nat) : Prop := c ≤ 12 ∨ (87 ≤ c ∧ c ≤ 98) ∨ c = 103 ∨ (105 ≤ c ∧ c ≤ 107) ∨ (109 ≤ c ∧ c ≤ 112) ∨ (115 ≤ c ∧ c ≤ 118)
theorem CO.kept {M M' : MM} {t : TW} {a : AO} (h : CO M t a) (he : ∀ c, cC c → M' c = M c) : CO M' t a := by
  have k : ∀ c, (c ≤ 12 ∨ (87 ≤ c ∧ c ≤ 98) ∨ c = 103 ∨ (105 ≤ c ∧ c ≤ 107) ∨ (109 ≤ c ∧ c ≤ 112) ∨ (115 ≤ c ∧ c ≤ 118)) → M' c = M c := he
  obtain ⟨h1, h2, h3, h4, h5, h6, h7, h8, h9⟩ := h
  refine ⟨h1.kept (k _ (by omega)) (k _ (by omega)) (k _ (by omega)), fun i hi => ?_, ?_, ?_, ?_, ?_, ?_, ?_, ?_⟩
  · obtain ⟨a1, a2⟩ := h2 i hi
    refine ⟨by rw [k 90 (by omega)]; exact a1, fun hb => ?_⟩
    obtain ⟨b1, b2⟩ := a2 hb
    exact ⟨b1.kept (k _ (by omega)) (k _ (by omega)) (k _ (by omega)) (k _ (by omega)), by rw [k 89 (by omega)]; exact b2⟩
  · unfold TxC; rw [k 11 (by omega), k 12 (by omega)]; exact h3
  · rw [k 0 (by omega)]; exact h4
  · rw [k 0 (by omega)]; exact h5
  · unfold ShC; rw [k 105 (by omega), k 106 (by omega), k 107 (by omega)]; exact h6
  · unfold MeC; rw [k 109 (by omega), k 110 (by omega), k 111 (by omega), k 112 (by omega)]; exact h7
  · unfold BoC; rw [k 115 (by omega), k 116 (by omega), k 117 (by omega), k 118 (by omega)]; exact h8
  · unfold StC; rw [k 103 (by omega)]; exact h9
def cR (c : Nat) : Prop := c = 120 ∨ c = 121 ∨ c = 123 ∨ c = 129 ∨ c = 130 ∨ (132 ≤ c ∧ c ≤ 134)
def kR (k : Nat) : Prop := k = 0 ∨ k = 1 ∨ k = 2 ∨ k = 5 ∨ k = 8 ∨ k = 9 ∨ k = 20 ∨ k = 24 ∨ k = 26 ∨ k = 29
theorem RO.kept {M M' : MM} {t : TW} {a : AO} (h : RO M t a) (he : ∀ c, cR c → M' c = M c) (hk : ∀ k, kR k → M' 119 k = M 119 k) : RO M' t a := by
  have k : ∀ c, (c = 120 ∨ c = 121 ∨ c = 123 ∨ c = 129 ∨ c = 130 ∨ (132 ≤ c ∧ c ≤ 134)) → M' c = M c := he
  have q : ∀ k, (k = 0 ∨ k = 1 ∨ k = 2 ∨ k = 5 ∨ k = 8 ∨ k = 9 ∨ k = 20 ∨ k = 24 ∨ k = 26 ∨ k = 29) → M' 119 k = M 119 k := hk
  obtain ⟨h1, h2, h3, h4, h5, h6, h7, h8⟩ := h
  refine ⟨?_, fun i hi => ?_, ?_, ?_, ?_, ?_, ?_, ?_⟩
  · unfold TwR; rw [q 0 (by omega), q 1 (by omega), q 2 (by omega), q 5 (by omega), k 120 (by omega), k 121 (by omega)]; exact h1
  · obtain ⟨a1, a2⟩ := h2 i hi
    refine ⟨by rw [k 134 (by omega)]; exact a1, fun hb => ?_⟩
    obtain ⟨b1, b2⟩ := a2 hb
    exact ⟨b1.blk (fun j _ => by rw [k 133 (by omega)]), by rw [k 133 (by omega)]; exact b2⟩
  · unfold TxR; rw [q 8 (by omega), k 123 (by omega)]; exact h3
  · rw [q 9 (by omega)]; exact h4
  · rw [q 20 (by omega)]; exact h5
  · unfold ShR; rw [q 24 (by omega), k 129 (by omega)]; exact h6
  · unfold MeR; rw [q 26 (by omega), k 130 (by omega)]; exact h7
  · unfold BoR; rw [q 29 (by omega), k 132 (by omega)]; exact h8
theorem PaR.kept {M M' : MM} {u : Nat} {f : Nat → ST} (h : PaR M u f) (h1 : M' 119 19 = M 119 19) (h2 : M' 126 = M 126) : PaR M' u f := by
  obtain ⟨a, b, c⟩ := h
  exact ⟨a, by rw [h1]; exact b, fun j hj => (c j hj).blk (fun k _ => by rw [h2])⟩
/-- one side's calls leave the other side's cells alone -/
theorem RO.fr {M M' : MM} {t : TW} {a : AO} {lo hi : Nat} (h : RO M t a) (hf : fr lo hi M M') (hh : hi ≤ 119) : RO M' t a := h.kept (fun c hc => hf c (by unfold cR at hc; omega)) (fun k _ => by rw [hf 119 (by omega)])
theorem PaR.fr {M M' : MM} {u : Nat} {f : Nat → ST} {lo hi : Nat} (h : PaR M u f) (hf : fr lo hi M M') (hh : hi ≤ 119) : PaR M' u f := h.kept (by rw [hf 119 (by omega)]) (hf 126 (by omega))
theorem CO.fr {M M' : MM} {t : TW} {a : AO} {lo hi : Nat} (h : CO M t a) (hf : fr lo hi M M') (hh : 119 ≤ lo) : CO M' t a := h.kept (fun c hc => hf c (by unfold cC at hc; omega))
theorem rg_lo {x : Int32} {a b : Nat} (hb : b < 2 ^ 31) (ha : a < 2 ^ 31) (h : x < nI a) : ¬ ∃ k, a ≤ k ∧ k ≤ b ∧ x = nI k := by
  rintro ⟨k, h1, h2, rfl⟩
  have := (nI_ltI (by omega) ha).mp h
  omega
theorem rg_hi {x : Int32} {a b : Nat} (hb : b < 2 ^ 31) (h : ¬ x ≤ nI b) : ¬ ∃ k, a ≤ k ∧ k ≤ b ∧ x = nI k := by
  rintro ⟨k, h1, h2, rfl⟩
  exact h (nI_le h2 hb)
theorem rg_in {x : Int32} {a b : Nat} (hb : b < 2 ^ 31) (ha : a < 2 ^ 31) (h : ¬ x < nI a) (h2 : x ≤ nI b) : ∃ k, a ≤ k ∧ k ≤ b ∧ x = nI k := by
  have h3 : ¬ x < 0 := fun e => h (by
    rw [Int32.lt_iff_toInt_lt] at e ⊢
    rw [nI_toInt ha]
    have e : x.toInt < 0 := e
    omega)
  obtain ⟨k, hk, rfl⟩ := nI_of h3
  exact ⟨k, Nat.le_of_not_lt fun e => h (nI_lt e ha), (nI_leI hk hb).mp h2, rfl⟩
theorem PaC_kept13 {M M' : MM} {u : Nat} {f : Nat → ST} {hi : Nat} (h : PaC M u f) (hf : fr 13 hi M M') (hh : hi ≤ 21 := by decide) : PaC M' u f := h.fr hf (Or.inl hh)
