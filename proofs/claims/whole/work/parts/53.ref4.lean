/-! THE REFERENCE: rows of 26 ints copied; what can be undone -/
section Ref4
variable {κ : gK} {M : MM} {Q : Int32 → MM → Prop} {t : TW} {s : ST}
theorem Rv.blk {M0 : MM} {b z b0 z0 : Nat} (h : Rv M0 b0 z0 s) (he : ∀ k, k < 26 → M b (z + k) = M0 b0 (z0 + k)) : Rv M b z s := by
  refine ⟨?_, ?_, fun p hp => ⟨?_, ?_, ?_⟩⟩
  · have := he 0 (by omega); rw [Nat.add_zero, Nat.add_zero] at this; rw [this]; exact h.1
  · rw [he 1 (by omega)]; exact h.2.1
  · rw [show z + 2 + p = z + (2 + p) by omega, he _ (by omega), ← (h.2.2 p hp).1, show z0 + 2 + p = z0 + (2 + p) by omega]
  · rw [show z + 10 + p = z + (10 + p) by omega, he _ (by omega), ← (h.2.2 p hp).2.1, show z0 + 10 + p = z0 + (10 + p) by omega]
  · rw [show z + 18 + p = z + (18 + p) by omega, he _ (by omega), ← (h.2.2 p hp).2.2, show z0 + 18 + p = z0 + (18 + p) by omega]
theorem v26 {k : Nat} (h : k < 26) : vp_in (nI k) 26 := vp_in_nI h (by decide)
theorem c26 {k : Nat} (h : k < 26) : ¬ (26 : Int32) ≤ nI k := nI_ge h (by decide)
theorem r_asides (hR : Rv M 122 0 s) (h : ∀ M', fr 127 128 M M' → Rv M' 127 0 s → Q 0 M') : Cl κ mX11_asides [.ref 119] M Q := by
  refine eX11_asides (bX11_asides_0 ?_)
  refine up_ind 26 (fun k => ∀ Mk, fr 127 128 M Mk → (∀ j, j < k → Mk 127 j = M 122 j) → G κ mX11_asides 2 [.ref 119, .int (nI k)] [] Mk Q) ?_ ?_ 0 (by decide) M fr.rf (fun j hj => absurd hj (by omega))
  · exact fun Mk hf he => bX11_asides_2 _ ⟨fun _ => h Mk hf (hR.blk fun k hk => by rw [Nat.zero_add]; exact he k hk), fun c => absurd (by decide) c⟩
  · intro k hk ih Mk hf he
    refine bX11_asides_2 _ ⟨fun c => absurd c (c26 hk), fun _ => ⟨v26 hk, ?_⟩⟩
    rw [tNI (by omega), nI_1]
    rintro M1 rfl
    refine ih _ (hf.pt (by omega) (by omega)) (fun j hj => ?_)
    by_cases e : j = k
    · subst e; rw [pt_s, hf 122 (by omega)]
    · rw [pt_k _ _ e]; exact he j (by omega)
theorem r_backs (hR : Rv M 127 0 s) (h : ∀ M', fr 122 123 M M' → Rv M' 122 0 s → Q 0 M') : Cl κ mX11_backs [.ref 119] M Q := by
  refine eX11_backs (bX11_backs_0 ?_)
  refine up_ind 26 (fun k => ∀ Mk, fr 122 123 M Mk → (∀ j, j < k → Mk 122 j = M 127 j) → G κ mX11_backs 2 [.ref 119, .int (nI k)] [] Mk Q) ?_ ?_ 0 (by decide) M fr.rf (fun j hj => absurd hj (by omega))
  · exact fun Mk hf he => bX11_backs_2 _ ⟨fun _ => h Mk hf (hR.blk fun k hk => by rw [Nat.zero_add]; exact he k hk), fun c => absurd (by decide) c⟩
  · intro k hk ih Mk hf he
    refine bX11_backs_2 _ ⟨fun c => absurd c (c26 hk), fun _ => ⟨v26 hk, ?_⟩⟩
    rw [tNI (by omega), nI_1]
    rintro M1 rfl
    refine ih _ (hf.pt (by omega) (by omega)) (fun j hj => ?_)
    by_cases e : j = k
    · subst e; rw [pt_s, hf 127 (by omega)]
    · rw [pt_k _ _ e]; exact he j (by omega)
def PaR (M : MM) (u : Nat) (f : Nat → ST) : Prop := u ≤ 16 ∧ M 119 19 = nI u ∧ ∀ j, j < u → Rv M 126 (26 * (u - 1 - j)) (f j)
/-- the second half of notes(): the row of now behind the rows that are kept -/
theorem r_notes2 {u : Nat} {f : Nat → ST} (hu : u ≤ 15) (hR : Rv M 122 0 s) (h19 : M 119 19 = nI u) (hP : ∀ j, j < u → Rv M 126 (26 * (u - 1 - j)) (f j)) (h : ∀ M', (∀ c, c ≠ 119 → c ≠ 126 → M' c = M c) → (∀ k, k ≠ 19 → M' 119 k = M 119 k) → PaR M' (u + 1) (consF s f) → Q 0 M') : G κ mX11_notes 46 [.ref 119, .null] [] M Q := by
  refine bX11_notes_46 ?_
  refine up_ind 26 (fun k => ∀ Mk, fr 126 127 M Mk → (∀ j, j < 26 * u → Mk 126 j = M 126 j) → (∀ j, j < k → Mk 126 (26 * u + j) = M 122 j) → G κ mX11_notes 48 [.ref 119, .int (nI k)] [] Mk Q) ?_ ?_ 0 (by decide) M fr.rf (fun j hj => rfl) (fun j hj => absurd hj (by omega))
  · intro Mk hf h1 h2
    refine bX11_notes_48 _ ⟨fun _ => ?_, fun c => absurd (by decide) c⟩
    rintro M1 rfl
    refine h _ (fun c c1 c2 => ?_) (fun k hk => ?_) ⟨by omega, ?_, fun j hj => ?_⟩
    · rw [pt_c _ _ c1]; exact hf c (by omega)
    · rw [pt_k _ _ hk, hf 119 (by omega)]
    · rw [pt_s, hf 119 (by omega), h19, nI_1]
    · have e126 : ∀ x : Int32, pt Mk 119 19 x 126 = Mk 126 := fun x => pt_c _ _ (by decide)
      match j, hj with
      | 0, _ =>
        refine hR.blk (fun k hk => ?_)
        rw [e126, Nat.zero_add, ← h2 k hk]
        congr 1
      | j + 1, hj =>
        refine (hP j (by omega)).blk (fun k hk => ?_)
        rw [e126, show u + 1 - 1 - (j + 1) = u - 1 - j by omega]
        exact h1 _ (by omega)
  · intro k hk ih Mk hf h1 h2
    have hu2 : Mk 119 19 = nI u := by rw [hf 119 (by omega)]; exact h19
    refine bX11_notes_48 _ ⟨fun c => absurd c (c26 hk), fun _ => ⟨v26 hk, ?_⟩⟩
    rw [hu2, show (26 : Int32) = nI 26 from rfl, pk_mul, nI_add, tNI (by omega), tNI (by omega), nI_1]
    refine ⟨vp_in_nI (by omega) (by decide), ?_⟩
    rintro M1 rfl
    refine ih _ (hf.pt (by omega) (by omega)) (fun j hj => ?_) (fun j hj => ?_)
    · rw [pt_k _ _ (by omega)]; exact h1 j hj
    · by_cases e : j = k
      · subst e; rw [pt_s, hf 122 (by omega)]
      · rw [pt_k _ _ (by omega)]; exact h2 j (by omega)
theorem r_notes {u : Nat} {f : Nat → ST} (hR : Rv M 122 0 s) (hP : PaR M u f) (h : ∀ M', (∀ c, c ≠ 119 → c ≠ 126 → M' c = M c) → (∀ k, k ≠ 19 → M' 119 k = M 119 k) → PaR M' (min (u + 1) 16) (consF s f) → Q 0 M') : Cl κ mX11_notes [.ref 119] M Q := by
  obtain ⟨hu, h19, hr⟩ := hP
  refine eX11_notes (bX11_notes_0 ⟨fun c => ?_, fun c => ?_⟩)
  · rw [h19] at c
    have e := nI_inj (b := 16) (by omega) (by decide) c
    subst e
    refine up_ind 416 (fun k => 26 ≤ k → ∀ Mk, fr 126 127 M Mk → (∀ j, j < k - 26 → Mk 126 j = M 126 (j + 26)) → (∀ j, k - 26 ≤ j → Mk 126 j = M 126 j) → G κ mX11_notes 12 [.ref 119, .int (nI k)] [] Mk Q) ?_ ?_ 26 (by decide) (Nat.le_refl _) M fr.rf (fun j hj => absurd hj (by omega)) (fun j _ => rfl)
    · intro _ Mk hf h1 h2
      refine bX11_notes_12 _ ⟨fun _ => ?_, fun c => absurd (by decide) c⟩
      rintro M1 rfl
      refine r_notes2 (u := 15) (f := f) (s := s) (by decide) ?_ (pt_s _ _ _ _) (fun j hj => ?_) (fun M' hc hk hp => h M' (fun c c1 c2 => ?_) (fun k hk2 => ?_) hp)
      · have : pt Mk 119 19 15 122 = M 122 := by rw [pt_c _ _ (by decide), hf 122 (by omega)]
        exact hR.blk (fun k hk => by rw [this])
      · refine (hr j (by omega)).blk (fun k hk => ?_)
        rw [pt_c _ _ (by decide), h1 _ (by omega)]
        congr 1
        omega
      · rw [hc c c1 c2, pt_c _ _ c1]; exact hf c (by omega)
      · rw [hk k hk2, pt_k _ _ hk2, hf 119 (by omega)]
    · intro k hk ih h26 Mk hf h1 h2
      refine bX11_notes_12 _ ⟨fun c => absurd c (nI_ge hk (by decide)), fun _ => ⟨vp_in_nI hk (by decide), ?_⟩⟩
      rw [show (26 : Int32) = nI 26 from rfl, pk_sub h26, tNI (by omega), tNI (by omega), nI_1]
      refine ⟨vp_in_nI (by omega) (by decide), ?_⟩
      rintro M1 rfl
      refine ih (by omega) _ (hf.pt (by omega) (by omega)) (fun j hj => ?_) (fun j hj => ?_)
      · by_cases e : j = k - 26
        · subst e
          rw [pt_s, h2 k (by omega)]
          congr 1
          omega
        · rw [pt_k _ _ e]; exact h1 j (by omega)
      · rw [pt_k _ _ (by omega)]; exact h2 j (by omega)
  · have hne : u ≠ 16 := fun e => c (by rw [h19, e]; rfl)
    rw [Nat.min_eq_left (by omega)] at h
    exact r_notes2 (by omega) hR h19 hr h
theorem r_common {x : Nat} (hx : x < 2 ^ 31) (hT : TwR M t) (ht : twOk t) (hR : Rv M 122 0 s) (h : Q (nI (andL s.2.2.1 x (2 ^ t.1 - 1) t.2.2.1)) M) : Cl κ mX11_common [.ref 119, .int (nI x)] M Q := by
  have hP := ht.2.1
  refine eX11_common _ (bX11_common_0 _ ?_)
  rintro v1 rfl
  rw [hT.1, all_nI ht.n9]
  refine up_ind t.2.2.1 (fun k => G κ mX11_common 11 [.ref 119, .int (nI x), .int (nI (andL s.2.2.1 x (2 ^ t.1 - 1) k)), .int (nI k)] [] M Q) ?_ ?_ 0 (Nat.zero_le _)
  · exact bX11_common_11 _ _ _ ⟨fun _ => h, fun c => absurd (by rw [hT.2.2.1]; exact Int32.le_refl _) c⟩
  · intro k hk ih
    refine bX11_common_11 _ _ _ ⟨fun c => absurd c (stOk.P8 ht hT hk), fun _ => ⟨fun c => ?_, fun c => ?_⟩⟩
    · refine r_layersOf (by omega) hR (bX11_common_38 _ _ _ _ ?_)
      rw [nI_1, nI_and]
      unfold andL at ih
      rw [if_pos ((shr_bit hx (by omega)).mp c)] at ih
      exact ih
    · refine bX11_common_38 _ _ _ _ ?_
      rw [nI_1, nI_and, Nat.and_self]
      unfold andL at ih
      rw [if_neg (fun e => c ((shr_bit hx (by omega)).mpr e))] at ih
      exact ih
theorem andL_tb (la : Nat → Nat) (x z i : Nat) : ∀ k, (andL la x z k).testBit i = true ↔ (z.testBit i = true ∧ ∀ p, p < k → x.testBit p = true → (la p).testBit i = true) := by
  intro k
  induction k with
  | zero => simp [andL]
  | succ k ih =>
    unfold andL
    by_cases h : x.testBit k = true
    · rw [if_pos h, Nat.testBit_and, Bool.and_eq_true, ih]
      constructor
      · rintro ⟨⟨a, b⟩, c⟩
        refine ⟨a, fun p hp hx => ?_⟩
        by_cases e : p = k
        · subst e; exact c
        · exact b p (by omega) hx
      · rintro ⟨a, b⟩
        exact ⟨⟨a, fun p hp hx => b p (by omega) hx⟩, b k (by omega) h⟩
    · rw [if_neg h, ih]
      constructor
      · rintro ⟨a, b⟩
        refine ⟨a, fun p hp hx => ?_⟩
        by_cases e : p = k
        · subst e; exact absurd hx h
        · exact b p (by omega) hx
      · rintro ⟨a, b⟩
        exact ⟨a, fun p hp hx => b p (by omega) hx⟩
/-- nobody's or some persons' common layers: none in the one way of telling just when none in the other -/
theorem andL_eq {x : Nat} (ht : twOk t) (hn : 2 ≤ t.1) (hs : stOk t s) (hx : x < 2 ^ t.2.2.1) : (andL s.2.2.1 x (2 ^ t.1 - 1) t.2.2.1 = 0) ↔ (andL s.2.2.1 x 511 8 = 0) := by
  have hP := ht.2.1
  have h9 := ht.n9
  have hxb : ∀ p, x.testBit p = true → p < t.2.2.1 := by
    intro p hp
    rcases Nat.lt_or_ge p t.2.2.1 with a | a
    · exact a
    · rw [Nat.testBit_lt_two_pow (Nat.lt_of_lt_of_le hx (Nat.pow_le_pow_right (by decide) a))] at hp
      cases hp
  have lab : ∀ p i, (s.2.2.1 p).testBit i = true → i < t.1 := by
    intro p i hi
    rcases Nat.lt_or_ge i t.1 with a | a
    · exact a
    · rw [Nat.testBit_lt_two_pow (Nat.lt_of_lt_of_le (hs.2.2.1 p) (Nat.pow_le_pow_right (by decide) a))] at hi
      cases hi
  have t511 : ∀ i, (511 : Nat).testBit i = decide (i < 9) := fun i => by rw [show (511 : Nat) = 2 ^ 9 - 1 from rfl, Nat.testBit_two_pow_sub_one]
  by_cases hx0 : x = 0
  · subst hx0
    have a1 : andL s.2.2.1 0 (2 ^ t.1 - 1) t.2.2.1 ≠ 0 := by
      intro e
      have : (andL s.2.2.1 0 (2 ^ t.1 - 1) t.2.2.1).testBit 0 = true := (andL_tb _ _ _ _ _).mpr ⟨by rw [Nat.testBit_two_pow_sub_one]; simp; omega, fun p _ h => by simp at h⟩
      rw [e] at this; simp at this
    have a2 : andL s.2.2.1 0 511 8 ≠ 0 := by
      intro e
      have : (andL s.2.2.1 0 511 8).testBit 0 = true := (andL_tb _ _ _ _ _).mpr ⟨by rw [t511]; decide, fun p _ h => by simp at h⟩
      rw [e] at this; simp at this
    exact ⟨fun e => absurd e a1, fun e => absurd e a2⟩
  · obtain ⟨p0, hp0⟩ : ∃ i, x.testBit i = true := Nat.exists_testBit_of_ne_zero hx0
    have e : andL s.2.2.1 x (2 ^ t.1 - 1) t.2.2.1 = andL s.2.2.1 x 511 8 := tb_ext fun i => by
      rw [andL_tb, andL_tb]
      constructor
      · rintro ⟨a, b⟩
        rw [Nat.testBit_two_pow_sub_one] at a
        refine ⟨by rw [t511]; simp at a ⊢; omega, fun p hp h => b p (hxb p h) h⟩
      · rintro ⟨a, b⟩
        refine ⟨?_, fun p hp h => b p (by omega) h⟩
        rw [Nat.testBit_two_pow_sub_one]
        have := lab p0 i (b p0 (by have := hxb p0 hp0; omega) hp0)
        simp [this]
    rw [e]
end Ref4
