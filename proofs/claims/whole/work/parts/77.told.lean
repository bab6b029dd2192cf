section Told
variable {κ : gK} {M : MM}
theorem PaC.kept {M M' : MM} {u : Nat} {f : Nat → ST} (c2 : PaC M u f) (kk : ∀ c, 21 ≤ c → c < 87 → M' c = M c) : PaC M' u f := by
  obtain ⟨h1, x, h2, h3, h4, h5⟩ := c2
  refine ⟨h1, x, h2, by rw [kk 21 (by omega) (by omega)]; exact h3, by rw [kk 21 (by omega) (by omega)]; exact h4, fun j hj => ?_⟩
  have := Nat.mod_lt (x + 15 - j) (show 0 < 16 by decide)
  exact (h5 j hj).kept (kk _ (by omega) (by omega)) (kk _ (by omega) (by omega)) (kk _ (by omega) (by omega)) (kk _ (by omega) (by omega))
theorem op_told (hI : IV M) (x : Int32) : Cl κ mX10_told [.ref 0, .int x] M (fun r M1 => Cl κ mX11_told [.ref 119, .int x] M1 (fun r' M2 => r = r' ∧ IV M2)) := by
  have hI2 := hI
  obtain ⟨t, s, u, f, a, ht, hs, hu, ho, c1, c2, c3, d1, d2, d3⟩ := hI
  have hP := ht.2.1
  have h9 := ht.n9
  have h5 := hs.1.b512 ht
  refine eX10_told _ (bX10_told_0 _ ⟨fun e => ?_, fun e => ?_, fun e => ?_, fun e => ?_, fun e => ?_, fun e => ?_, fun e => ?_, fun e => ?_, fun e => ?_, fun e => ?_, fun e => ?_, fun e => ?_, fun e => ?_, fun e => ?_, fun e => ?_, fun e => ?_, fun e => ?_⟩)
  · subst e
    refine eX11_told _ (bX11_told_0 _ ⟨fun _ => ?_, fun e => absurd e (by decide), fun e => absurd e (by decide), fun e => absurd e (by decide), fun e => absurd e (by decide), fun e => absurd e (by decide), fun e => absurd e (by decide), fun e => absurd e (by decide), fun e => absurd e (by decide), fun e => absurd e (by decide), fun e => absurd e (by decide), fun e => absurd e (by decide), fun e => absurd e (by decide), fun e => absurd e (by decide), fun e => absurd e (by decide), fun e => absurd e (by decide), fun e => absurd rfl (e 0 (by decide))⟩)
    exact ⟨by rw [c3.1.1, d3.1.1], hI2⟩
  · subst e
    refine eX11_told _ (bX11_told_0 _ ⟨fun e => absurd e (by decide), fun _ => ?_, fun e => absurd e (by decide), fun e => absurd e (by decide), fun e => absurd e (by decide), fun e => absurd e (by decide), fun e => absurd e (by decide), fun e => absurd e (by decide), fun e => absurd e (by decide), fun e => absurd e (by decide), fun e => absurd e (by decide), fun e => absurd e (by decide), fun e => absurd e (by decide), fun e => absurd e (by decide), fun e => absurd e (by decide), fun e => absurd e (by decide), fun e => absurd rfl (e 1 (by decide))⟩)
    exact ⟨by rw [c3.1.2.1, d3.1.2.1], hI2⟩
  · subst e
    refine eX11_told _ (bX11_told_0 _ ⟨fun e => absurd e (by decide), fun e => absurd e (by decide), fun _ => ?_, fun e => absurd e (by decide), fun e => absurd e (by decide), fun e => absurd e (by decide), fun e => absurd e (by decide), fun e => absurd e (by decide), fun e => absurd e (by decide), fun e => absurd e (by decide), fun e => absurd e (by decide), fun e => absurd e (by decide), fun e => absurd e (by decide), fun e => absurd e (by decide), fun e => absurd e (by decide), fun e => absurd e (by decide), fun e => absurd rfl (e 2 (by decide))⟩)
    exact ⟨by rw [c3.1.2.2.1, d3.1.2.2.1], hI2⟩
  · subst e
    refine eX11_told _ (bX11_told_0 _ ⟨fun e => absurd e (by decide), fun e => absurd e (by decide), fun e => absurd e (by decide), fun _ => ?_, fun e => absurd e (by decide), fun e => absurd e (by decide), fun e => absurd e (by decide), fun e => absurd e (by decide), fun e => absurd e (by decide), fun e => absurd e (by decide), fun e => absurd e (by decide), fun e => absurd e (by decide), fun e => absurd e (by decide), fun e => absurd e (by decide), fun e => absurd e (by decide), fun e => absurd e (by decide), fun e => absurd rfl (e 3 (by decide))⟩)
    exact ⟨by rw [c3.2.2.1.1, d3.2.2.1.1], hI2⟩
  · subst e
    refine eX11_told _ (bX11_told_0 _ ⟨fun e => absurd e (by decide), fun e => absurd e (by decide), fun e => absurd e (by decide), fun e => absurd e (by decide), fun _ => ?_, fun e => absurd e (by decide), fun e => absurd e (by decide), fun e => absurd e (by decide), fun e => absurd e (by decide), fun e => absurd e (by decide), fun e => absurd e (by decide), fun e => absurd e (by decide), fun e => absurd e (by decide), fun e => absurd e (by decide), fun e => absurd e (by decide), fun e => absurd e (by decide), fun e => absurd rfl (e 4 (by decide))⟩)
    exact ⟨by rw [c1.1, d1.1], hI2⟩
  · subst e
    rw [c1.1]
    refine s_lightOf twO_1 c3.1 ht (by have := hs.2; omega) (fun hn => ?_) (fun hz => ?_)
    · refine eX11_told _ (bX11_told_0 _ ⟨fun e => absurd e (by decide), fun e => absurd e (by decide), fun e => absurd e (by decide), fun e => absurd e (by decide), fun e => absurd e (by decide), fun _ => ?_, fun e => absurd e (by decide), fun e => absurd e (by decide), fun e => absurd e (by decide), fun e => absurd e (by decide), fun e => absurd e (by decide), fun e => absurd e (by decide), fun e => absurd e (by decide), fun e => absurd e (by decide), fun e => absurd e (by decide), fun e => absurd e (by decide), fun e => absurd rfl (e 5 (by decide))⟩)
      refine r_isTown d3.1 ht (fun _ => b1 ?_) (fun z => absurd z (by omega))
      rw [d1.1]
      exact r_lightOf d3.1 ht (by have := hs.2; omega) (bX11_told_128 _ ⟨rfl, hI2⟩)
    · refine eX11_told _ (bX11_told_0 _ ⟨fun e => absurd e (by decide), fun e => absurd e (by decide), fun e => absurd e (by decide), fun e => absurd e (by decide), fun e => absurd e (by decide), fun _ => ?_, fun e => absurd e (by decide), fun e => absurd e (by decide), fun e => absurd e (by decide), fun e => absurd e (by decide), fun e => absurd e (by decide), fun e => absurd e (by decide), fun e => absurd e (by decide), fun e => absurd e (by decide), fun e => absurd e (by decide), fun e => absurd e (by decide), fun e => absurd rfl (e 5 (by decide))⟩)
      exact r_isTown d3.1 ht (fun z => absurd z (by omega)) (fun _ => b0 (bX11_told_128 _ ⟨rfl, hI2⟩))
  · subst e
    refine eX11_told _ (bX11_told_0 _ ⟨fun e => absurd e (by decide), fun e => absurd e (by decide), fun e => absurd e (by decide), fun e => absurd e (by decide), fun e => absurd e (by decide), fun e => absurd e (by decide), fun _ => ?_, fun e => absurd e (by decide), fun e => absurd e (by decide), fun e => absurd e (by decide), fun e => absurd e (by decide), fun e => absurd e (by decide), fun e => absurd e (by decide), fun e => absurd e (by decide), fun e => absurd e (by decide), fun e => absurd e (by decide), fun e => absurd rfl (e 6 (by decide))⟩)
    exact ⟨by rw [c1.2.1, show M 122 1 = nI s.2.1 from d1.2.1], hI2⟩
  · subst e
    have hm := hs.1.2.1
    rcases ht.1 with z | z
    · have m0 : s.2.1 = 0 := by rw [z.1] at hm; omega
      rw [c1.2.1, c3.1.2.1, m0, z.2.1]
      refine s_goneOn twO_1 c3.1 ht (Nat.zero_le _) (Nat.two_pow_pos _) ?_
      refine eX11_told _ (bX11_told_0 _ ⟨fun e => absurd e (by decide), fun e => absurd e (by decide), fun e => absurd e (by decide), fun e => absurd e (by decide), fun e => absurd e (by decide), fun e => absurd e (by decide), fun e => absurd e (by decide), fun _ => ?_, fun e => absurd e (by decide), fun e => absurd e (by decide), fun e => absurd e (by decide), fun e => absurd e (by decide), fun e => absurd e (by decide), fun e => absurd e (by decide), fun e => absurd e (by decide), fun e => absurd e (by decide), fun e => absurd rfl (e 7 (by decide))⟩)
      rw [show M 122 1 = nI s.2.1 from d1.2.1, d3.1.2.1, m0, z.2.1]
      refine eX11_on _ _ (bX11_on_0 _ _ ?_)
      rw [d3.1.1, z.1]
      refine ⟨fun _ => bX11_on_17 _ _ ?_, fun q => absurd rfl q⟩
      rw [d3.1.1, z.1]
      exact ⟨by decide, hI2⟩
    · rw [c1.2.1, c3.1.2.1]
      refine s_goneOn twO_1 c3.1 ht (by omega) hm ?_
      refine eX11_told _ (bX11_told_0 _ ⟨fun e => absurd e (by decide), fun e => absurd e (by decide), fun e => absurd e (by decide), fun e => absurd e (by decide), fun e => absurd e (by decide), fun e => absurd e (by decide), fun e => absurd e (by decide), fun _ => ?_, fun e => absurd e (by decide), fun e => absurd e (by decide), fun e => absurd e (by decide), fun e => absurd e (by decide), fun e => absurd e (by decide), fun e => absurd e (by decide), fun e => absurd e (by decide), fun e => absurd e (by decide), fun e => absurd rfl (e 7 (by decide))⟩)
      rw [show M 122 1 = nI s.2.1 from d1.2.1, d3.1.2.1]
      refine r_on d3.1 ht z.1 hm (by omega) ?_
      rw [Nat.mod_eq_of_lt (by omega)]
      exact ⟨rfl, hI2⟩
  · subst e
    refine s_onSeveral stO_13 c1 h5 ?_
    refine eX11_told _ (bX11_told_0 _ ⟨fun e => absurd e (by decide), fun e => absurd e (by decide), fun e => absurd e (by decide), fun e => absurd e (by decide), fun e => absurd e (by decide), fun e => absurd e (by decide), fun e => absurd e (by decide), fun e => absurd e (by decide), fun _ => ?_, fun e => absurd e (by decide), fun e => absurd e (by decide), fun e => absurd e (by decide), fun e => absurd e (by decide), fun e => absurd e (by decide), fun e => absurd e (by decide), fun e => absurd e (by decide), fun e => absurd rfl (e 8 (by decide))⟩)
    exact r_tornOnes d3.1 ht d1 hs.1 ⟨rfl, hI2⟩
  · subst e
    refine s_cover stO_13 c1 h5 ?_
    refine eX11_told _ (bX11_told_0 _ ⟨fun e => absurd e (by decide), fun e => absurd e (by decide), fun e => absurd e (by decide), fun e => absurd e (by decide), fun e => absurd e (by decide), fun e => absurd e (by decide), fun e => absurd e (by decide), fun e => absurd e (by decide), fun e => absurd e (by decide), fun _ => ?_, fun e => absurd e (by decide), fun e => absurd e (by decide), fun e => absurd e (by decide), fun e => absurd e (by decide), fun e => absurd e (by decide), fun e => absurd e (by decide), fun e => absurd rfl (e 9 (by decide))⟩)
    exact r_cover d3.1 ht d1 hs.1 ⟨rfl, hI2⟩
  · subst e
    refine s_fullest stO_13 c1 h5 ?_
    refine eX11_told _ (bX11_told_0 _ ⟨fun e => absurd e (by decide), fun e => absurd e (by decide), fun e => absurd e (by decide), fun e => absurd e (by decide), fun e => absurd e (by decide), fun e => absurd e (by decide), fun e => absurd e (by decide), fun e => absurd e (by decide), fun e => absurd e (by decide), fun e => absurd e (by decide), fun _ => ?_, fun e => absurd e (by decide), fun e => absurd e (by decide), fun e => absurd e (by decide), fun e => absurd e (by decide), fun e => absurd e (by decide), fun e => absurd rfl (e 10 (by decide))⟩)
    exact r_fullest d3.1 ht d1 hs.1 ⟨rfl, hI2⟩
  · subst e
    refine eX11_told _ (bX11_told_0 _ ⟨fun e => absurd e (by decide), fun e => absurd e (by decide), fun e => absurd e (by decide), fun e => absurd e (by decide), fun e => absurd e (by decide), fun e => absurd e (by decide), fun e => absurd e (by decide), fun e => absurd e (by decide), fun e => absurd e (by decide), fun e => absurd e (by decide), fun e => absurd e (by decide), fun _ => ?_, fun e => absurd e (by decide), fun e => absurd e (by decide), fun e => absurd e (by decide), fun e => absurd e (by decide), fun e => absurd rfl (e 11 (by decide))⟩)
    exact ⟨by rw [c3.2.2.2.2.2.1.1, d3.2.2.2.2.2.1.1], hI2⟩
  · subst e
    refine eX11_told _ (bX11_told_0 _ ⟨fun e => absurd e (by decide), fun e => absurd e (by decide), fun e => absurd e (by decide), fun e => absurd e (by decide), fun e => absurd e (by decide), fun e => absurd e (by decide), fun e => absurd e (by decide), fun e => absurd e (by decide), fun e => absurd e (by decide), fun e => absurd e (by decide), fun e => absurd e (by decide), fun e => absurd e (by decide), fun _ => ?_, fun e => absurd e (by decide), fun e => absurd e (by decide), fun e => absurd e (by decide), fun e => absurd rfl (e 12 (by decide))⟩)
    exact ⟨by rw [c3.2.2.2.2.2.2.1.1, d3.2.2.2.2.2.2.1.1], hI2⟩
  · subst e
    obtain ⟨o1, o2⟩ := ho.2.2.2.2.1
    have cM : MeC M a.2.2.2.2.2.1 := c3.2.2.2.2.2.2.1
    rw [c3.1.2.2.1]
    refine s_explained hP cM o1 (fun i hi => by have := o2 i hi; omega) (fun M1 f1 r hr => ?_)
    have d3' : RO M1 t a := d3.fr f1 (by decide)
    refine eX11_told _ (bX11_told_0 _ ⟨fun e => absurd e (by decide), fun e => absurd e (by decide), fun e => absurd e (by decide), fun e => absurd e (by decide), fun e => absurd e (by decide), fun e => absurd e (by decide), fun e => absurd e (by decide), fun e => absurd e (by decide), fun e => absurd e (by decide), fun e => absurd e (by decide), fun e => absurd e (by decide), fun e => absurd e (by decide), fun e => absurd e (by decide), fun _ => ?_, fun e => absurd e (by decide), fun e => absurd e (by decide), fun e => absurd rfl (e 13 (by decide))⟩)
    refine r_explained hP d3'.1.2.2.1 d3'.2.2.2.2.2.2.1 o1 o2 (fun M2 f2 r2 hr2 => ⟨EXr_one hr hr2, ?_⟩)
    have kk : ∀ c, c ≠ 113 → c ≠ 114 → c ≠ 131 → M2 c = M c := fun c q1 q2 q3 => by rw [f2 c (by omega), f1 c (by omega)]
    exact ⟨t, s, u, f, a, ht, hs, hu, ho, c1.kept (kk _ (by omega) (by omega) (by omega)) (kk _ (by omega) (by omega) (by omega)) (kk _ (by omega) (by omega) (by omega)) (kk _ (by omega) (by omega) (by omega)), c2.kept (fun c q1 q2 => kk c (by omega) (by omega) (by omega)), c3.kept (fun c hc => by unfold cC at hc; exact kk c (by omega) (by omega) (by omega)), (d1.fr f1 (by omega)).fr f2 (by omega), (d2.fr f1 (by decide)).kept (by rw [f2 119 (by omega)]) (f2 126 (by omega)), d3'.kept (fun c hc => by unfold cR at hc; exact f2 c (by omega)) (fun q _ => by rw [f2 119 (by omega)])⟩
  · subst e
    refine eX11_told _ (bX11_told_0 _ ⟨fun e => absurd e (by decide), fun e => absurd e (by decide), fun e => absurd e (by decide), fun e => absurd e (by decide), fun e => absurd e (by decide), fun e => absurd e (by decide), fun e => absurd e (by decide), fun e => absurd e (by decide), fun e => absurd e (by decide), fun e => absurd e (by decide), fun e => absurd e (by decide), fun e => absurd e (by decide), fun e => absurd e (by decide), fun e => absurd e (by decide), fun _ => ?_, fun e => absurd e (by decide), fun e => absurd rfl (e 14 (by decide))⟩)
    exact ⟨by rw [c3.2.2.2.2.2.2.2.1.1, d3.2.2.2.2.2.2.2.1], hI2⟩
  · subst e
    obtain ⟨_, x, _, _, p4, _⟩ := c2
    refine eX11_told _ (bX11_told_0 _ ⟨fun e => absurd e (by decide), fun e => absurd e (by decide), fun e => absurd e (by decide), fun e => absurd e (by decide), fun e => absurd e (by decide), fun e => absurd e (by decide), fun e => absurd e (by decide), fun e => absurd e (by decide), fun e => absurd e (by decide), fun e => absurd e (by decide), fun e => absurd e (by decide), fun e => absurd e (by decide), fun e => absurd e (by decide), fun e => absurd e (by decide), fun e => absurd e (by decide), fun _ => ?_, fun e => absurd rfl (e 15 (by decide))⟩)
    exact ⟨by rw [p4, d2.2.1], hI2⟩
  · refine eX11_told _ (bX11_told_0 _ ⟨fun q => absurd q (e 0 (by decide)), fun q => absurd q (e 1 (by decide)), fun q => absurd q (e 2 (by decide)), fun q => absurd q (e 3 (by decide)), fun q => absurd q (e 4 (by decide)), fun q => absurd q (e 5 (by decide)), fun q => absurd q (e 6 (by decide)), fun q => absurd q (e 7 (by decide)), fun q => absurd q (e 8 (by decide)), fun q => absurd q (e 9 (by decide)), fun q => absurd q (e 10 (by decide)), fun q => absurd q (e 11 (by decide)), fun q => absurd q (e 12 (by decide)), fun q => absurd q (e 13 (by decide)), fun q => absurd q (e 14 (by decide)), fun q => absurd q (e 15 (by decide)), fun _ => ⟨rfl, hI2⟩⟩)
end Told
