section Upd
variable {M M' : MM} {t : TW} {a : AO}
theorem CO_im {x : AX} (h : CO M t a) (he : ∀ c, cC c → ¬ (87 ≤ c ∧ c ≤ 98) → M' c = M c) (hx : ImC M' x) : CO M' t (x, a.2) := by
  have k : ∀ c, (c ≤ 12 ∨ (87 ≤ c ∧ c ≤ 98) ∨ c = 103 ∨ (105 ≤ c ∧ c ≤ 107) ∨ (109 ≤ c ∧ c ≤ 112) ∨ (115 ≤ c ∧ c ≤ 118)) → ¬ (87 ≤ c ∧ c ≤ 98) → M' c = M c := he
  obtain ⟨h1, h2, h3, h4, h5, h6, h7, h8, h9⟩ := h
  refine ⟨?_, hx, ?_, ?_, ?_, ?_, ?_, ?_, ?_⟩
  · exact h1.kept (k _ (by omega) (by omega)) (k _ (by omega) (by omega)) (k _ (by omega) (by omega))
  · unfold TxC; rw [k 11 (by omega) (by omega), k 12 (by omega) (by omega)]; exact h3
  · rw [k 0 (by omega) (by omega)]; exact h4
  · rw [k 0 (by omega) (by omega)]; exact h5
  · unfold ShC; rw [k 105 (by omega) (by omega), k 106 (by omega) (by omega), k 107 (by omega) (by omega)]; exact h6
  · unfold MeC; rw [k 109 (by omega) (by omega), k 110 (by omega) (by omega), k 111 (by omega) (by omega), k 112 (by omega) (by omega)]; exact h7
  · unfold BoC; rw [k 115 (by omega) (by omega), k 116 (by omega) (by omega), k 117 (by omega) (by omega), k 118 (by omega) (by omega)]; exact h8
  · unfold StC; rw [k 103 (by omega) (by omega)]; exact h9
theorem CO_tx {x : AT} (h : CO M t a) (he : ∀ c, cC c → ¬ (11 ≤ c ∧ c ≤ 12) → M' c = M c) (hx : TxC M' x) : CO M' t (a.1, x, a.2.2) := by
  have k : ∀ c, (c ≤ 12 ∨ (87 ≤ c ∧ c ≤ 98) ∨ c = 103 ∨ (105 ≤ c ∧ c ≤ 107) ∨ (109 ≤ c ∧ c ≤ 112) ∨ (115 ≤ c ∧ c ≤ 118)) → ¬ (11 ≤ c ∧ c ≤ 12) → M' c = M c := he
  obtain ⟨h1, h2, h3, h4, h5, h6, h7, h8, h9⟩ := h
  refine ⟨?_, ?_, hx, ?_, ?_, ?_, ?_, ?_, ?_⟩
  · exact h1.kept (k _ (by omega) (by omega)) (k _ (by omega) (by omega)) (k _ (by omega) (by omega))
  · intro i hi
    obtain ⟨a1, a2⟩ := h2 i hi
    refine ⟨by rw [k 90 (by omega) (by omega)]; exact a1, fun hb => ?_⟩
    obtain ⟨b1, b2⟩ := a2 hb
    exact ⟨b1.kept (k _ (by omega) (by omega)) (k _ (by omega) (by omega)) (k _ (by omega) (by omega)) (k _ (by omega) (by omega)), by rw [k 89 (by omega) (by omega)]; exact b2⟩
  · rw [k 0 (by omega) (by omega)]; exact h4
  · rw [k 0 (by omega) (by omega)]; exact h5
  · unfold ShC; rw [k 105 (by omega) (by omega), k 106 (by omega) (by omega), k 107 (by omega) (by omega)]; exact h6
  · unfold MeC; rw [k 109 (by omega) (by omega), k 110 (by omega) (by omega), k 111 (by omega) (by omega), k 112 (by omega) (by omega)]; exact h7
  · unfold BoC; rw [k 115 (by omega) (by omega), k 116 (by omega) (by omega), k 117 (by omega) (by omega), k 118 (by omega) (by omega)]; exact h8
  · unfold StC; rw [k 103 (by omega) (by omega)]; exact h9
theorem CO_sh {x : A3} (h : CO M t a) (he : ∀ c, cC c → ¬ (105 ≤ c ∧ c ≤ 107) → M' c = M c) (hx : ShC M' x) : CO M' t (a.1, a.2.1, a.2.2.1, a.2.2.2.1, x, a.2.2.2.2.2) := by
  have k : ∀ c, (c ≤ 12 ∨ (87 ≤ c ∧ c ≤ 98) ∨ c = 103 ∨ (105 ≤ c ∧ c ≤ 107) ∨ (109 ≤ c ∧ c ≤ 112) ∨ (115 ≤ c ∧ c ≤ 118)) → ¬ (105 ≤ c ∧ c ≤ 107) → M' c = M c := he
  obtain ⟨h1, h2, h3, h4, h5, h6, h7, h8, h9⟩ := h
  refine ⟨?_, ?_, ?_, ?_, ?_, hx, ?_, ?_, ?_⟩
  · exact h1.kept (k _ (by omega) (by omega)) (k _ (by omega) (by omega)) (k _ (by omega) (by omega))
  · intro i hi
    obtain ⟨a1, a2⟩ := h2 i hi
    refine ⟨by rw [k 90 (by omega) (by omega)]; exact a1, fun hb => ?_⟩
    obtain ⟨b1, b2⟩ := a2 hb
    exact ⟨b1.kept (k _ (by omega) (by omega)) (k _ (by omega) (by omega)) (k _ (by omega) (by omega)) (k _ (by omega) (by omega)), by rw [k 89 (by omega) (by omega)]; exact b2⟩
  · unfold TxC; rw [k 11 (by omega) (by omega), k 12 (by omega) (by omega)]; exact h3
  · rw [k 0 (by omega) (by omega)]; exact h4
  · rw [k 0 (by omega) (by omega)]; exact h5
  · unfold MeC; rw [k 109 (by omega) (by omega), k 110 (by omega) (by omega), k 111 (by omega) (by omega), k 112 (by omega) (by omega)]; exact h7
  · unfold BoC; rw [k 115 (by omega) (by omega), k 116 (by omega) (by omega), k 117 (by omega) (by omega), k 118 (by omega) (by omega)]; exact h8
  · unfold StC; rw [k 103 (by omega) (by omega)]; exact h9
theorem CO_me {x : A4} (h : CO M t a) (he : ∀ c, cC c → ¬ (109 ≤ c ∧ c ≤ 112) → M' c = M c) (hx : MeC M' x) : CO M' t (a.1, a.2.1, a.2.2.1, a.2.2.2.1, a.2.2.2.2.1, x, a.2.2.2.2.2.2) := by
  have k : ∀ c, (c ≤ 12 ∨ (87 ≤ c ∧ c ≤ 98) ∨ c = 103 ∨ (105 ≤ c ∧ c ≤ 107) ∨ (109 ≤ c ∧ c ≤ 112) ∨ (115 ≤ c ∧ c ≤ 118)) → ¬ (109 ≤ c ∧ c ≤ 112) → M' c = M c := he
  obtain ⟨h1, h2, h3, h4, h5, h6, h7, h8, h9⟩ := h
  refine ⟨?_, ?_, ?_, ?_, ?_, ?_, hx, ?_, ?_⟩
  · exact h1.kept (k _ (by omega) (by omega)) (k _ (by omega) (by omega)) (k _ (by omega) (by omega))
  · intro i hi
    obtain ⟨a1, a2⟩ := h2 i hi
    refine ⟨by rw [k 90 (by omega) (by omega)]; exact a1, fun hb => ?_⟩
    obtain ⟨b1, b2⟩ := a2 hb
    exact ⟨b1.kept (k _ (by omega) (by omega)) (k _ (by omega) (by omega)) (k _ (by omega) (by omega)) (k _ (by omega) (by omega)), by rw [k 89 (by omega) (by omega)]; exact b2⟩
  · unfold TxC; rw [k 11 (by omega) (by omega), k 12 (by omega) (by omega)]; exact h3
  · rw [k 0 (by omega) (by omega)]; exact h4
  · rw [k 0 (by omega) (by omega)]; exact h5
  · unfold ShC; rw [k 105 (by omega) (by omega), k 106 (by omega) (by omega), k 107 (by omega) (by omega)]; exact h6
  · unfold BoC; rw [k 115 (by omega) (by omega), k 116 (by omega) (by omega), k 117 (by omega) (by omega), k 118 (by omega) (by omega)]; exact h8
  · unfold StC; rw [k 103 (by omega) (by omega)]; exact h9
theorem CO_bo {x : A4} (h : CO M t a) (he : ∀ c, cC c → ¬ (115 ≤ c ∧ c ≤ 118) → M' c = M c) (hx : BoC M' x) : CO M' t (a.1, a.2.1, a.2.2.1, a.2.2.2.1, a.2.2.2.2.1, a.2.2.2.2.2.1, x) := by
  have k : ∀ c, (c ≤ 12 ∨ (87 ≤ c ∧ c ≤ 98) ∨ c = 103 ∨ (105 ≤ c ∧ c ≤ 107) ∨ (109 ≤ c ∧ c ≤ 112) ∨ (115 ≤ c ∧ c ≤ 118)) → ¬ (115 ≤ c ∧ c ≤ 118) → M' c = M c := he
  obtain ⟨h1, h2, h3, h4, h5, h6, h7, h8, h9⟩ := h
  refine ⟨?_, ?_, ?_, ?_, ?_, ?_, ?_, hx, ?_⟩
  · exact h1.kept (k _ (by omega) (by omega)) (k _ (by omega) (by omega)) (k _ (by omega) (by omega))
  · intro i hi
    obtain ⟨a1, a2⟩ := h2 i hi
    refine ⟨by rw [k 90 (by omega) (by omega)]; exact a1, fun hb => ?_⟩
    obtain ⟨b1, b2⟩ := a2 hb
    exact ⟨b1.kept (k _ (by omega) (by omega)) (k _ (by omega) (by omega)) (k _ (by omega) (by omega)) (k _ (by omega) (by omega)), by rw [k 89 (by omega) (by omega)]; exact b2⟩
  · unfold TxC; rw [k 11 (by omega) (by omega), k 12 (by omega) (by omega)]; exact h3
  · rw [k 0 (by omega) (by omega)]; exact h4
  · rw [k 0 (by omega) (by omega)]; exact h5
  · unfold ShC; rw [k 105 (by omega) (by omega), k 106 (by omega) (by omega), k 107 (by omega) (by omega)]; exact h6
  · unfold MeC; rw [k 109 (by omega) (by omega), k 110 (by omega) (by omega), k 111 (by omega) (by omega), k 112 (by omega) (by omega)]; exact h7
  · unfold StC; rw [k 103 (by omega) (by omega)]; exact h9
theorem CO_sd {x : Nat} (h : CO M t a) (he : ∀ c, cC c → ¬ (c = 0) → M' c = M c) (hf : M' 0 12 = M 0 12) (hx : M' 0 13 = nI x) : CO M' t (a.1, a.2.1, a.2.2.1, x, a.2.2.2.2) := by
  have k : ∀ c, (c ≤ 12 ∨ (87 ≤ c ∧ c ≤ 98) ∨ c = 103 ∨ (105 ≤ c ∧ c ≤ 107) ∨ (109 ≤ c ∧ c ≤ 112) ∨ (115 ≤ c ∧ c ≤ 118)) → ¬ (c = 0) → M' c = M c := he
  obtain ⟨h1, h2, h3, h4, h5, h6, h7, h8, h9⟩ := h
  refine ⟨?_, ?_, ?_, ?_, hx, ?_, ?_, ?_, ?_⟩
  · exact h1.kept (k _ (by omega) (by omega)) (k _ (by omega) (by omega)) (k _ (by omega) (by omega))
  · intro i hi
    obtain ⟨a1, a2⟩ := h2 i hi
    refine ⟨by rw [k 90 (by omega) (by omega)]; exact a1, fun hb => ?_⟩
    obtain ⟨b1, b2⟩ := a2 hb
    exact ⟨b1.kept (k _ (by omega) (by omega)) (k _ (by omega) (by omega)) (k _ (by omega) (by omega)) (k _ (by omega) (by omega)), by rw [k 89 (by omega) (by omega)]; exact b2⟩
  · unfold TxC; rw [k 11 (by omega) (by omega), k 12 (by omega) (by omega)]; exact h3
  · rw [hf]; exact h4
  · unfold ShC; rw [k 105 (by omega) (by omega), k 106 (by omega) (by omega), k 107 (by omega) (by omega)]; exact h6
  · unfold MeC; rw [k 109 (by omega) (by omega), k 110 (by omega) (by omega), k 111 (by omega) (by omega), k 112 (by omega) (by omega)]; exact h7
  · unfold BoC; rw [k 115 (by omega) (by omega), k 116 (by omega) (by omega), k 117 (by omega) (by omega), k 118 (by omega) (by omega)]; exact h8
  · unfold StC; rw [k 103 (by omega) (by omega)]; exact h9
theorem CO_fa {x : Int32} (h : CO M t a) (he : ∀ c, cC c → ¬ (c = 0) → M' c = M c) (hf : M' 0 13 = M 0 13) (hx : M' 0 12 = x) : CO M' t (a.1, a.2.1, x, a.2.2.2) := by
  have k : ∀ c, (c ≤ 12 ∨ (87 ≤ c ∧ c ≤ 98) ∨ c = 103 ∨ (105 ≤ c ∧ c ≤ 107) ∨ (109 ≤ c ∧ c ≤ 112) ∨ (115 ≤ c ∧ c ≤ 118)) → ¬ (c = 0) → M' c = M c := he
  obtain ⟨h1, h2, h3, h4, h5, h6, h7, h8, h9⟩ := h
  refine ⟨?_, ?_, ?_, hx, ?_, ?_, ?_, ?_, ?_⟩
  · exact h1.kept (k _ (by omega) (by omega)) (k _ (by omega) (by omega)) (k _ (by omega) (by omega))
  · intro i hi
    obtain ⟨a1, a2⟩ := h2 i hi
    refine ⟨by rw [k 90 (by omega) (by omega)]; exact a1, fun hb => ?_⟩
    obtain ⟨b1, b2⟩ := a2 hb
    exact ⟨b1.kept (k _ (by omega) (by omega)) (k _ (by omega) (by omega)) (k _ (by omega) (by omega)) (k _ (by omega) (by omega)), by rw [k 89 (by omega) (by omega)]; exact b2⟩
  · unfold TxC; rw [k 11 (by omega) (by omega), k 12 (by omega) (by omega)]; exact h3
  · rw [hf]; exact h5
  · unfold ShC; rw [k 105 (by omega) (by omega), k 106 (by omega) (by omega), k 107 (by omega) (by omega)]; exact h6
  · unfold MeC; rw [k 109 (by omega) (by omega), k 110 (by omega) (by omega), k 111 (by omega) (by omega), k 112 (by omega) (by omega)]; exact h7
  · unfold BoC; rw [k 115 (by omega) (by omega), k 116 (by omega) (by omega), k 117 (by omega) (by omega), k 118 (by omega) (by omega)]; exact h8
  · unfold StC; rw [k 103 (by omega) (by omega)]; exact h9
theorem RO_im {x : AX} (h : RO M t a) (he : ∀ c, cR c → ¬ (133 ≤ c ∧ c ≤ 134) → M' c = M c) (hk : ∀ k, kR k → ¬ k = 999 → M' 119 k = M 119 k) (hx : ImR M' x) : RO M' t (x, a.2) := by
  have k : ∀ c, (c = 120 ∨ c = 121 ∨ c = 123 ∨ c = 129 ∨ c = 130 ∨ (132 ≤ c ∧ c ≤ 134)) → ¬ (133 ≤ c ∧ c ≤ 134) → M' c = M c := he
  have q : ∀ k, (k = 0 ∨ k = 1 ∨ k = 2 ∨ k = 5 ∨ k = 8 ∨ k = 9 ∨ k = 20 ∨ k = 24 ∨ k = 26 ∨ k = 29) → ¬ k = 999 → M' 119 k = M 119 k := hk
  obtain ⟨h1, h2, h3, h4, h5, h6, h7, h8⟩ := h
  refine ⟨?_, hx, ?_, ?_, ?_, ?_, ?_, ?_⟩
  · unfold TwR; rw [q 0 (by omega) (by omega), q 1 (by omega) (by omega), q 2 (by omega) (by omega), q 5 (by omega) (by omega), k 120 (by omega) (by omega), k 121 (by omega) (by omega)]; exact h1
  · unfold TxR; rw [q 8 (by omega) (by omega), k 123 (by omega) (by omega)]; exact h3
  · rw [q 9 (by omega) (by omega)]; exact h4
  · rw [q 20 (by omega) (by omega)]; exact h5
  · unfold ShR; rw [q 24 (by omega) (by omega), k 129 (by omega) (by omega)]; exact h6
  · unfold MeR; rw [q 26 (by omega) (by omega), k 130 (by omega) (by omega)]; exact h7
  · unfold BoR; rw [q 29 (by omega) (by omega), k 132 (by omega) (by omega)]; exact h8
theorem RO_tx {x : AT} (h : RO M t a) (he : ∀ c, cR c → ¬ c = 123 → M' c = M c) (hk : ∀ k, kR k → ¬ k = 8 → M' 119 k = M 119 k) (hx : TxR M' x) : RO M' t (a.1, x, a.2.2) := by
  have k : ∀ c, (c = 120 ∨ c = 121 ∨ c = 123 ∨ c = 129 ∨ c = 130 ∨ (132 ≤ c ∧ c ≤ 134)) → ¬ c = 123 → M' c = M c := he
  have q : ∀ k, (k = 0 ∨ k = 1 ∨ k = 2 ∨ k = 5 ∨ k = 8 ∨ k = 9 ∨ k = 20 ∨ k = 24 ∨ k = 26 ∨ k = 29) → ¬ k = 8 → M' 119 k = M 119 k := hk
  obtain ⟨h1, h2, h3, h4, h5, h6, h7, h8⟩ := h
  refine ⟨?_, ?_, hx, ?_, ?_, ?_, ?_, ?_⟩
  · unfold TwR; rw [q 0 (by omega) (by omega), q 1 (by omega) (by omega), q 2 (by omega) (by omega), q 5 (by omega) (by omega), k 120 (by omega) (by omega), k 121 (by omega) (by omega)]; exact h1
  · intro i hi
    obtain ⟨a1, a2⟩ := h2 i hi
    refine ⟨by rw [k 134 (by omega) (by omega)]; exact a1, fun hb => ?_⟩
    obtain ⟨b1, b2⟩ := a2 hb
    exact ⟨b1.blk (fun j _ => by rw [k 133 (by omega) (by omega)]), by rw [k 133 (by omega) (by omega)]; exact b2⟩
  · rw [q 9 (by omega) (by omega)]; exact h4
  · rw [q 20 (by omega) (by omega)]; exact h5
  · unfold ShR; rw [q 24 (by omega) (by omega), k 129 (by omega) (by omega)]; exact h6
  · unfold MeR; rw [q 26 (by omega) (by omega), k 130 (by omega) (by omega)]; exact h7
  · unfold BoR; rw [q 29 (by omega) (by omega), k 132 (by omega) (by omega)]; exact h8
theorem RO_sh {x : A3} (h : RO M t a) (he : ∀ c, cR c → ¬ c = 129 → M' c = M c) (hk : ∀ k, kR k → ¬ k = 24 → M' 119 k = M 119 k) (hx : ShR M' x) : RO M' t (a.1, a.2.1, a.2.2.1, a.2.2.2.1, x, a.2.2.2.2.2) := by
  have k : ∀ c, (c = 120 ∨ c = 121 ∨ c = 123 ∨ c = 129 ∨ c = 130 ∨ (132 ≤ c ∧ c ≤ 134)) → ¬ c = 129 → M' c = M c := he
  have q : ∀ k, (k = 0 ∨ k = 1 ∨ k = 2 ∨ k = 5 ∨ k = 8 ∨ k = 9 ∨ k = 20 ∨ k = 24 ∨ k = 26 ∨ k = 29) → ¬ k = 24 → M' 119 k = M 119 k := hk
  obtain ⟨h1, h2, h3, h4, h5, h6, h7, h8⟩ := h
  refine ⟨?_, ?_, ?_, ?_, ?_, hx, ?_, ?_⟩
  · unfold TwR; rw [q 0 (by omega) (by omega), q 1 (by omega) (by omega), q 2 (by omega) (by omega), q 5 (by omega) (by omega), k 120 (by omega) (by omega), k 121 (by omega) (by omega)]; exact h1
  · intro i hi
    obtain ⟨a1, a2⟩ := h2 i hi
    refine ⟨by rw [k 134 (by omega) (by omega)]; exact a1, fun hb => ?_⟩
    obtain ⟨b1, b2⟩ := a2 hb
    exact ⟨b1.blk (fun j _ => by rw [k 133 (by omega) (by omega)]), by rw [k 133 (by omega) (by omega)]; exact b2⟩
  · unfold TxR; rw [q 8 (by omega) (by omega), k 123 (by omega) (by omega)]; exact h3
  · rw [q 9 (by omega) (by omega)]; exact h4
  · rw [q 20 (by omega) (by omega)]; exact h5
  · unfold MeR; rw [q 26 (by omega) (by omega), k 130 (by omega) (by omega)]; exact h7
  · unfold BoR; rw [q 29 (by omega) (by omega), k 132 (by omega) (by omega)]; exact h8
theorem RO_me {x : A4} (h : RO M t a) (he : ∀ c, cR c → ¬ c = 130 → M' c = M c) (hk : ∀ k, kR k → ¬ k = 26 → M' 119 k = M 119 k) (hx : MeR M' x) : RO M' t (a.1, a.2.1, a.2.2.1, a.2.2.2.1, a.2.2.2.2.1, x, a.2.2.2.2.2.2) := by
  have k : ∀ c, (c = 120 ∨ c = 121 ∨ c = 123 ∨ c = 129 ∨ c = 130 ∨ (132 ≤ c ∧ c ≤ 134)) → ¬ c = 130 → M' c = M c := he
  have q : ∀ k, (k = 0 ∨ k = 1 ∨ k = 2 ∨ k = 5 ∨ k = 8 ∨ k = 9 ∨ k = 20 ∨ k = 24 ∨ k = 26 ∨ k = 29) → ¬ k = 26 → M' 119 k = M 119 k := hk
  obtain ⟨h1, h2, h3, h4, h5, h6, h7, h8⟩ := h
  refine ⟨?_, ?_, ?_, ?_, ?_, ?_, hx, ?_⟩
  · unfold TwR; rw [q 0 (by omega) (by omega), q 1 (by omega) (by omega), q 2 (by omega) (by omega), q 5 (by omega) (by omega), k 120 (by omega) (by omega), k 121 (by omega) (by omega)]; exact h1
  · intro i hi
    obtain ⟨a1, a2⟩ := h2 i hi
    refine ⟨by rw [k 134 (by omega) (by omega)]; exact a1, fun hb => ?_⟩
    obtain ⟨b1, b2⟩ := a2 hb
    exact ⟨b1.blk (fun j _ => by rw [k 133 (by omega) (by omega)]), by rw [k 133 (by omega) (by omega)]; exact b2⟩
  · unfold TxR; rw [q 8 (by omega) (by omega), k 123 (by omega) (by omega)]; exact h3
  · rw [q 9 (by omega) (by omega)]; exact h4
  · rw [q 20 (by omega) (by omega)]; exact h5
  · unfold ShR; rw [q 24 (by omega) (by omega), k 129 (by omega) (by omega)]; exact h6
  · unfold BoR; rw [q 29 (by omega) (by omega), k 132 (by omega) (by omega)]; exact h8
theorem RO_bo {x : A4} (h : RO M t a) (he : ∀ c, cR c → ¬ c = 132 → M' c = M c) (hk : ∀ k, kR k → ¬ k = 29 → M' 119 k = M 119 k) (hx : BoR M' x) : RO M' t (a.1, a.2.1, a.2.2.1, a.2.2.2.1, a.2.2.2.2.1, a.2.2.2.2.2.1, x) := by
  have k : ∀ c, (c = 120 ∨ c = 121 ∨ c = 123 ∨ c = 129 ∨ c = 130 ∨ (132 ≤ c ∧ c ≤ 134)) → ¬ c = 132 → M' c = M c := he
  have q : ∀ k, (k = 0 ∨ k = 1 ∨ k = 2 ∨ k = 5 ∨ k = 8 ∨ k = 9 ∨ k = 20 ∨ k = 24 ∨ k = 26 ∨ k = 29) → ¬ k = 29 → M' 119 k = M 119 k := hk
  obtain ⟨h1, h2, h3, h4, h5, h6, h7, h8⟩ := h
  refine ⟨?_, ?_, ?_, ?_, ?_, ?_, ?_, hx⟩
  · unfold TwR; rw [q 0 (by omega) (by omega), q 1 (by omega) (by omega), q 2 (by omega) (by omega), q 5 (by omega) (by omega), k 120 (by omega) (by omega), k 121 (by omega) (by omega)]; exact h1
  · intro i hi
    obtain ⟨a1, a2⟩ := h2 i hi
    refine ⟨by rw [k 134 (by omega) (by omega)]; exact a1, fun hb => ?_⟩
    obtain ⟨b1, b2⟩ := a2 hb
    exact ⟨b1.blk (fun j _ => by rw [k 133 (by omega) (by omega)]), by rw [k 133 (by omega) (by omega)]; exact b2⟩
  · unfold TxR; rw [q 8 (by omega) (by omega), k 123 (by omega) (by omega)]; exact h3
  · rw [q 9 (by omega) (by omega)]; exact h4
  · rw [q 20 (by omega) (by omega)]; exact h5
  · unfold ShR; rw [q 24 (by omega) (by omega), k 129 (by omega) (by omega)]; exact h6
  · unfold MeR; rw [q 26 (by omega) (by omega), k 130 (by omega) (by omega)]; exact h7
theorem RO_sd {x : Nat} (h : RO M t a) (he : ∀ c, cR c → ¬ c = 999 → M' c = M c) (hk : ∀ k, kR k → ¬ k = 20 → M' 119 k = M 119 k) (hx : M' 119 20 = nI x) : RO M' t (a.1, a.2.1, a.2.2.1, x, a.2.2.2.2) := by
  have k : ∀ c, (c = 120 ∨ c = 121 ∨ c = 123 ∨ c = 129 ∨ c = 130 ∨ (132 ≤ c ∧ c ≤ 134)) → ¬ c = 999 → M' c = M c := he
  have q : ∀ k, (k = 0 ∨ k = 1 ∨ k = 2 ∨ k = 5 ∨ k = 8 ∨ k = 9 ∨ k = 20 ∨ k = 24 ∨ k = 26 ∨ k = 29) → ¬ k = 20 → M' 119 k = M 119 k := hk
  obtain ⟨h1, h2, h3, h4, h5, h6, h7, h8⟩ := h
  refine ⟨?_, ?_, ?_, ?_, hx, ?_, ?_, ?_⟩
  · unfold TwR; rw [q 0 (by omega) (by omega), q 1 (by omega) (by omega), q 2 (by omega) (by omega), q 5 (by omega) (by omega), k 120 (by omega) (by omega), k 121 (by omega) (by omega)]; exact h1
  · intro i hi
    obtain ⟨a1, a2⟩ := h2 i hi
    refine ⟨by rw [k 134 (by omega) (by omega)]; exact a1, fun hb => ?_⟩
    obtain ⟨b1, b2⟩ := a2 hb
    exact ⟨b1.blk (fun j _ => by rw [k 133 (by omega) (by omega)]), by rw [k 133 (by omega) (by omega)]; exact b2⟩
  · unfold TxR; rw [q 8 (by omega) (by omega), k 123 (by omega) (by omega)]; exact h3
  · rw [q 9 (by omega) (by omega)]; exact h4
  · unfold ShR; rw [q 24 (by omega) (by omega), k 129 (by omega) (by omega)]; exact h6
  · unfold MeR; rw [q 26 (by omega) (by omega), k 130 (by omega) (by omega)]; exact h7
  · unfold BoR; rw [q 29 (by omega) (by omega), k 132 (by omega) (by omega)]; exact h8
theorem RO_fa {x : Int32} (h : RO M t a) (he : ∀ c, cR c → ¬ c = 999 → M' c = M c) (hk : ∀ k, kR k → ¬ k = 9 → M' 119 k = M 119 k) (hx : M' 119 9 = x) : RO M' t (a.1, a.2.1, x, a.2.2.2) := by
  have k : ∀ c, (c = 120 ∨ c = 121 ∨ c = 123 ∨ c = 129 ∨ c = 130 ∨ (132 ≤ c ∧ c ≤ 134)) → ¬ c = 999 → M' c = M c := he
  have q : ∀ k, (k = 0 ∨ k = 1 ∨ k = 2 ∨ k = 5 ∨ k = 8 ∨ k = 9 ∨ k = 20 ∨ k = 24 ∨ k = 26 ∨ k = 29) → ¬ k = 9 → M' 119 k = M 119 k := hk
  obtain ⟨h1, h2, h3, h4, h5, h6, h7, h8⟩ := h
  refine ⟨?_, ?_, ?_, hx, ?_, ?_, ?_, ?_⟩
  · unfold TwR; rw [q 0 (by omega) (by omega), q 1 (by omega) (by omega), q 2 (by omega) (by omega), q 5 (by omega) (by omega), k 120 (by omega) (by omega), k 121 (by omega) (by omega)]; exact h1
  · intro i hi
    obtain ⟨a1, a2⟩ := h2 i hi
    refine ⟨by rw [k 134 (by omega) (by omega)]; exact a1, fun hb => ?_⟩
    obtain ⟨b1, b2⟩ := a2 hb
    exact ⟨b1.blk (fun j _ => by rw [k 133 (by omega) (by omega)]), by rw [k 133 (by omega) (by omega)]; exact b2⟩
  · unfold TxR; rw [q 8 (by omega) (by omega), k 123 (by omega) (by omega)]; exact h3
  · rw [q 20 (by omega) (by omega)]; exact h5
  · unfold ShR; rw [q 24 (by omega) (by omega), k 129 (by omega) (by omega)]; exact h6
  · unfold MeR; rw [q 26 (by omega) (by omega), k 130 (by omega) (by omega)]; exact h7
  · unfold BoR; rw [q 29 (by omega) (by omega), k 132 (by omega) (by omega)]; exact h8
end Upd
