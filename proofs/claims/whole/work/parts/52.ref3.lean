section Ref3
variable {κ : gK} {M : MM} {Q : Int32 → MM → Prop} {t : TW} {s : ST}
theorem whoF_bit {la : Nat → Nat} {x : Nat} : whoF la (2 ^ x) = bits (fun p => (la p).testBit x) 8 := bits_congr fun i _ => by
  cases h : (la i).testBit x with
  | false => simp [(and_p2 (la i) x).mpr h]
  | true =>
    have : la i &&& 2 ^ x ≠ 0 := fun e => by rw [(and_p2 (la i) x).mp e] at h; cases h
    simp [this]
theorem bits_P {f : Nat → Bool} {P : Nat} (hP : P ≤ 8) (h : ∀ p, P ≤ p → f p = false) : bits f P = bits f 8 := bits_ext fun i => by
  by_cases a : i < P
  · have : i < 8 := by omega
    simp [a, this]
  · simp [a, h i (by omega)]
theorem r_whoOn {x : Nat} (hx : x < 32) (hT : TwR M t) (ht : twOk t) (hR : Rv M 122 0 s) (hs : stOk t s) (h : Q (nI (whoF s.2.2.1 (2 ^ x))) M) : Cl κ mX11_whoOn [.ref 119, .int (nI x)] M Q := by
  have hP := ht.2.1
  refine eX11_whoOn _ (bX11_whoOn_0 _ ?_)
  refine up_ind t.2.2.1 (fun k => G κ mX11_whoOn 4 [.ref 119, .int (nI x), .int (nI (bits (fun p => (s.2.2.1 p).testBit x) k)), .int (nI k)] [] M Q) ?_ ?_ 0 (Nat.zero_le _)
  · refine bX11_whoOn_4 _ _ _ ⟨fun _ => ?_, fun c => absurd (by rw [hT.2.2.1]; exact Int32.le_refl _) c⟩
    rw [bits_P hP (fun p hp => by rw [hs.2.2.2.2.1 p hp]; simp), ← whoF_bit]
    exact h
  · intro k hk ih
    refine bX11_whoOn_4 _ _ _ ⟨fun c => absurd c (stOk.P8 ht hT hk), fun _ => ?_⟩
    refine r_isOn (by omega) hx hR (hs.b512 ht) (fun c => b1 ?_) (fun c => b0 ?_)
    · refine bX11_whoOn_29 _ _ _ _ ?_
      rw [nI_1, one_shl (by omega), nI_or]
      unfold bits at ih
      rw [if_pos c] at ih
      exact ih
    · refine bX11_whoOn_29 _ _ _ _ ?_
      rw [nI_1, show (0 : Int32) = nI 0 from rfl, nI_or, Nat.or_zero]
      unfold bits at ih
      rw [if_neg (by rw [c]; decide)] at ih
      exact ih
theorem r_anybody (hT : TwR M t) (ht : twOk t) (hR : Rv M 122 0 s) (h : Q (nI (orA s.2.2.1 t.2.2.1)) M) : Cl κ mX11_anybody [.ref 119] M Q := by
  have hP := ht.2.1
  refine eX11_anybody (bX11_anybody_0 ?_)
  refine up_ind t.2.2.1 (fun k => G κ mX11_anybody 4 [.ref 119, .int (nI (orA s.2.2.1 k)), .int (nI k)] [] M Q) ?_ ?_ 0 (Nat.zero_le _)
  · exact bX11_anybody_4 _ _ ⟨fun _ => h, fun c => absurd (by rw [hT.2.2.1]; exact Int32.le_refl _) c⟩
  · intro k hk ih
    refine bX11_anybody_4 _ _ ⟨fun c => absurd c (stOk.P8 ht hT hk), fun _ => r_layersOf (by omega) hR ?_⟩
    rw [nI_1, nI_or]; exact ih
theorem r_meets {p : Nat} (hp : p < t.2.2.1) (hT : TwR M t) (ht : twOk t) (hR : Rv M 122 0 s) (hs : stOk t s) (h : Q (nI (bits (fun q => decide (q ≠ p) && decide (s.2.2.1 p &&& s.2.2.1 q ≠ 0)) 8)) M) : Cl κ mX11_meets [.ref 119, .int (nI p)] M Q := by
  have hP := ht.2.1
  refine eX11_meets _ (bX11_meets_0 _ ?_)
  refine up_ind t.2.2.1 (fun k => G κ mX11_meets 4 [.ref 119, .int (nI p), .int (nI (bits (fun q => decide (q ≠ p) && decide (s.2.2.1 p &&& s.2.2.1 q ≠ 0)) k)), .int (nI k)] [] M Q) ?_ ?_ 0 (Nat.zero_le _)
  · refine bX11_meets_4 _ _ _ ⟨fun _ => ?_, fun c => absurd (by rw [hT.2.2.1]; exact Int32.le_refl _) c⟩
    rw [bits_P hP (fun q hq => by rw [hs.2.2.2.2.1 q hq]; simp)]
    exact h
  · intro k hk ih
    have z : G κ mX11_meets 4 [.ref 119, .int (nI p), .int (nI (bits (fun q => decide (q ≠ p) && decide (s.2.2.1 p &&& s.2.2.1 q ≠ 0)) k)), .int (nI (k + 1))] [] M Q → G κ mX11_meets 38 [.ref 119, .int (nI p), .null, .int (nI k)] [.int (nI (bits (fun q => decide (q ≠ p) && decide (s.2.2.1 p &&& s.2.2.1 q ≠ 0)) k))] M Q := by
      intro hh
      refine bX11_meets_38 _ _ _ (bX11_meets_39 _ _ _ _ ?_)
      rw [nI_1, show (0 : Int32) = nI 0 from rfl, nI_or, Nat.or_zero]; exact hh
    refine bX11_meets_4 _ _ _ ⟨fun c => absurd c (stOk.P8 ht hT hk), fun _ => ⟨fun c => z ?_, fun c => ?_⟩⟩
    · have e := nI_inj (by omega) (by omega) c
      unfold bits at ih
      rw [if_neg (by simp [e])] at ih
      exact ih
    · refine r_layersOf (by omega) hR (r_layersOf (by omega) hR ?_)
      rw [nI_and]
      have hl : s.2.2.1 p &&& s.2.2.1 k < 2 ^ 31 := Nat.lt_of_le_of_lt Nat.and_le_left (by have := hs.b512 ht p; omega)
      refine ⟨fun c2 => z ?_, fun c2 => ?_⟩
      · have e := nI_inj (b := 0) hl (by decide) c2
        unfold bits at ih
        rw [if_neg (by simp [e])] at ih
        exact ih
      · refine bX11_meets_39 _ _ _ _ ?_
        rw [nI_1, one_shl (by omega), nI_or]
        unfold bits at ih
        have hkp : k ≠ p := fun e => c (by rw [e])
        have ha : s.2.2.1 p &&& s.2.2.1 k ≠ 0 := fun e => c2 (by rw [e]; rfl)
        rw [if_pos (by simp [hkp, ha])] at ih
        exact ih
theorem r_tornOnes (hT : TwR M t) (ht : twOk t) (hR : Rv M 122 0 s) (hs : stOk t s) (h : Q (nI (bits (fun p => decide (1 < popc (s.2.2.1 p))) 8)) M) : Cl κ mX11_tornOnes [.ref 119] M Q := by
  have hP := ht.2.1
  refine eX11_tornOnes (bX11_tornOnes_0 ?_)
  refine up_ind t.2.2.1 (fun k => G κ mX11_tornOnes 4 [.ref 119, .int (nI (bits (fun p => decide (1 < popc (s.2.2.1 p))) k)), .int (nI k)] [] M Q) ?_ ?_ 0 (Nat.zero_le _)
  · refine bX11_tornOnes_4 _ _ ⟨fun _ => ?_, fun c => absurd (by rw [hT.2.2.1]; exact Int32.le_refl _) c⟩
    rw [bits_P hP (fun q hq => by rw [hs.2.2.2.2.1 q hq]; decide)]
    exact h
  · intro k hk ih
    have hp := popc_le (s.2.2.1 k)
    refine bX11_tornOnes_4 _ _ ⟨fun c => absurd c (stOk.P8 ht hT hk), fun _ => r_layersOf (by omega) hR (r_many (hs.b512 ht k) ⟨fun c => ?_, fun c => ?_⟩)⟩
    · refine bX11_tornOnes_32 _ _ _ ?_
      have := (nI_leI (b := 1) (by omega) (by decide)).mp c
      rw [nI_1, show (0 : Int32) = nI 0 from rfl, nI_or, Nat.or_zero]
      unfold bits at ih
      rw [if_neg (by simp; omega)] at ih
      exact ih
    · refine bX11_tornOnes_32 _ _ _ ?_
      have : ¬ popc (s.2.2.1 k) ≤ 1 := fun e => c (nI_le (b := 1) e (by decide))
      rw [nI_1, one_shl (by omega), nI_or]
      unfold bits at ih
      rw [if_pos (by simp; omega)] at ih
      exact ih
/-- everybody who is there is on some layer -/
theorem whoF_all (ht : twOk t) (hs : stOk t s) : whoF s.2.2.1 511 = 2 ^ t.2.2.1 - 1 := by
  apply Nat.eq_of_testBit_eq
  intro i
  have hP := ht.2.1
  unfold whoF
  rw [bits_tb, Nat.testBit_two_pow_sub_one]
  by_cases a : i < t.2.2.1
  · have h8 : i < 8 := by omega
    have hpos := hs.2.2.2.1 i a
    have hlt := hs.b512 ht i
    have e : s.2.2.1 i &&& 511 = s.2.2.1 i := by
      rw [show (511 : Nat) = 2 ^ 9 - 1 from rfl, Nat.and_two_pow_sub_one_eq_mod, Nat.mod_eq_of_lt hlt]
    have : s.2.2.1 i ≠ 0 := by omega
    simp [a, h8, e, this]
  · rw [hs.2.2.2.2.1 i (by omega)]
    simp [a]
theorem popN_mono : ∀ (x P : Nat), P ≤ 8 → x < 2 ^ P → popc x ≤ P := by
  have key : ∀ P : Nat, P < 9 → ∀ x : Nat, x < 256 → x < 2 ^ P → popc x ≤ P := by decide +kernel
  intro x P hP hx
  exact key P (by omega) x (Nat.lt_of_lt_of_le hx (show 2 ^ P ≤ 2 ^ 8 from Nat.pow_le_pow_right (by decide) hP)) hx
theorem popc_all : ∀ P : Nat, P < 9 → popc (2 ^ P - 1) = P := by decide +kernel
theorem covF_ext {la : Nat → Nat} {P w : Nat} (hP : P ≤ 8) : covF la (2 ^ P - 1) w (2 ^ P) = covF la (2 ^ P - 1) w (2 ^ P - 1) := by
  have h1 := Nat.one_le_two_pow (n := P)
  obtain ⟨m, hm⟩ : ∃ m, 2 ^ P = m + 1 := ⟨2 ^ P - 1, by omega⟩
  have hpa := popc_all P (by omega)
  have hpm := fun x => popN_mono x P hP
  rw [hm] at hpa hpm ⊢
  rw [Nat.add_sub_cancel] at hpa ⊢
  show (if _ then _ else _) = _
  rw [if_neg]
  rintro ⟨a, -⟩
  have hc := covF_le la m w m (by omega)
  have := hpm (covF la m w m) (by omega)
  omega
theorem r_cover (hT : TwR M t) (ht : twOk t) (hR : Rv M 122 0 s) (hs : stOk t s) (h : Q (nI (covF s.2.2.1 (whoF s.2.2.1 511) (orL s.2.2.1 (whoF s.2.2.1 511) 8) (whoF s.2.2.1 511))) M) : Cl κ mX11_cover [.ref 119] M Q := by
  have hP := ht.2.1
  have hp2 := p2le (n := t.2.2.1) (by omega)
  have h1 := Nat.one_le_two_pow (n := t.2.2.1)
  rw [whoF_all ht hs] at h
  refine eX11_cover (bX11_cover_0 (r_anybody hT ht hR ?_))
  rintro v2 rfl
  rw [hT.2.2.1, all_nI (by omega), orA_orL hP]
  rw [← covF_ext hP] at h
  have hb := hs.b512 ht
  have hol : ∀ x k, orL s.2.2.1 x k < 2 ^ 9 := fun x k => orL_lt (n := 9) hb k
  generalize hw : orL s.2.2.1 (2 ^ t.2.2.1 - 1) 8 = w at *
  have hwl : w < 512 := by rw [← hw]; exact hol _ _
  refine up_ind (2 ^ t.2.2.1) (fun k => G κ mX11_cover 16 [.ref 119, .int (nI w), .int (nI (covF s.2.2.1 (2 ^ t.2.2.1 - 1) w k)), .int (nI k), .null, .null] [] M Q) ?_ ?_ 0 (Nat.zero_le _)
  · exact bX11_cover_16 _ _ _ ⟨fun _ => h, fun c => absurd (by rw [hT.2.2.1, one_shl (by omega)]; exact Int32.le_refl _) c⟩
  · intro k hk ih
    have hk9 : k < 2 ^ 9 := by
      have : 2 ^ t.2.2.1 ≤ 2 ^ 8 := Nat.pow_le_pow_right (by decide) hP
      omega
    have hc := covF_le s.2.2.1 (2 ^ t.2.2.1 - 1) w k (by omega)
    refine bX11_cover_16 _ _ _ ⟨fun c => ?_, fun _ => ?_⟩
    · rw [hT.2.2.1, one_shl (by omega)] at c
      exact absurd c (nI_ge hk (by omega))
    · refine up_ind t.2.2.1 (fun j => G κ mX11_cover 32 [.ref 119, .int (nI w), .int (nI (covF s.2.2.1 (2 ^ t.2.2.1 - 1) w k)), .int (nI k), .int (nI (orL s.2.2.1 k j)), .int (nI j)] [] M Q) ?_ ?_ 0 (Nat.zero_le _)
      · have e93 : ¬ (popc k < popc (covF s.2.2.1 (2 ^ t.2.2.1 - 1) w k) ∧ orL s.2.2.1 k 8 = w) → G κ mX11_cover 93 [.ref 119, .int (nI w), .int (nI (covF s.2.2.1 (2 ^ t.2.2.1 - 1) w k)), .int (nI k), .null, .null] [] M Q := by
          intro hn
          refine bX11_cover_93 _ _ _ (bX11_cover_94 _ _ _ ?_)
          rw [nI_1]
          unfold covF at ih
          rw [if_neg hn] at ih
          exact ih
        refine bX11_cover_32 _ _ _ _ _ ⟨fun _ => ⟨fun c => ?_, fun c => e93 (fun e => c ?_)⟩, fun c => absurd (by rw [hT.2.2.1]; exact Int32.le_refl _) c⟩
        · have e := nI_inj (by have := hol k t.2.2.1; omega) (by omega) c
          rw [orL_P hP hs.2.2.2.2.1] at e
          have p1 := popc_le k
          have p2 := popc_le (covF s.2.2.1 (2 ^ t.2.2.1 - 1) w k)
          refine r_many (by omega) (r_many (by omega) ⟨fun c2 => e93 ?_, fun c2 => ?_⟩)
          · have := (nI_leI (by omega) (by omega)).mp c2
            omega
          · have : ¬ popc (covF s.2.2.1 (2 ^ t.2.2.1 - 1) w k) ≤ popc k := fun e => c2 (nI_le e (by omega))
            refine bX11_cover_94 _ _ _ ?_
            rw [nI_1]
            unfold covF at ih
            rw [if_pos ⟨by omega, e⟩] at ih
            exact ih
        · rw [orL_P hP hs.2.2.2.2.1, e.2]
      · intro j hj ih2
        refine bX11_cover_32 _ _ _ _ _ ⟨fun c => absurd c (stOk.P8 ht hT hj), fun _ => ⟨fun c => ?_, fun c => ?_⟩⟩
        · refine r_layersOf (by omega) hR (bX11_cover_63 _ _ _ _ _ _ ?_)
          rw [nI_1, nI_or]
          have := (shr_bit (by omega) (by omega)).mp c
          have ih2 : G κ mX11_cover 32 [.ref 119, .int (nI w), .int (nI (covF s.2.2.1 (2 ^ t.2.2.1 - 1) w k)), .int (nI k), .int (nI (if k.testBit j = true then orL s.2.2.1 k j ||| s.2.2.1 j else orL s.2.2.1 k j)), .int (nI (j + 1))] [] M Q := ih2
          rw [if_pos this] at ih2
          exact ih2
        · refine bX11_cover_63 _ _ _ _ _ _ ?_
          rw [nI_1, show (0 : Int32) = nI 0 from rfl, nI_or, Nat.or_zero]
          have : ¬ k.testBit j = true := fun e => c ((shr_bit (by omega) (by omega)).mpr e)
          have ih2 : G κ mX11_cover 32 [.ref 119, .int (nI w), .int (nI (covF s.2.2.1 (2 ^ t.2.2.1 - 1) w k)), .int (nI k), .int (nI (if k.testBit j = true then orL s.2.2.1 k j ||| s.2.2.1 j else orL s.2.2.1 k j)), .int (nI (j + 1))] [] M Q := ih2
          rw [if_neg this] at ih2
          exact ih2
theorem fulF_n (ht : twOk t) (hs : stOk t s) : ∀ k, t.1 ≤ k → fulF s.2.2.1 k = fulF s.2.2.1 t.1 := by
  intro k hk
  obtain ⟨j, rfl⟩ : ∃ j, k = t.1 + j := ⟨k - t.1, by omega⟩
  induction j with
  | zero => rfl
  | succ j ih =>
    have e : whoF s.2.2.1 (2 ^ (t.1 + j)) = 0 := by
      rw [whoF_bit]
      apply Nat.eq_of_testBit_eq
      intro i
      rw [bits_tb, Nat.testBit_lt_two_pow (Nat.lt_of_lt_of_le (hs.2.2.1 i) (Nat.pow_le_pow_right (by decide) (by omega)))]
      simp
    have es : fulF s.2.2.1 (t.1 + (j + 1)) = if (fulF s.2.2.1 (t.1 + j)).2 < popc (whoF s.2.2.1 (2 ^ (t.1 + j))) then (nI (t.1 + j), popc (whoF s.2.2.1 (2 ^ (t.1 + j)))) else fulF s.2.2.1 (t.1 + j) := rfl
    rw [es, e, show popc 0 = 0 from by decide, if_neg (by omega)]
    exact ih (by omega)
theorem r_fullest (hT : TwR M t) (ht : twOk t) (hR : Rv M 122 0 s) (hs : stOk t s) (h : Q (fulF s.2.2.1 9).1 M) : Cl κ mX11_fullest [.ref 119] M Q := by
  have h9 := ht.n9
  have hf : ∀ k, (fulF s.2.2.1 k).2 ≤ 9 := by
    intro k
    induction k with
    | zero => exact Nat.zero_le 9
    | succ k ih =>
      unfold fulF
      split
      · exact popc_le _
      · exact ih
  rw [fulF_n ht hs 9 h9] at h
  refine eX11_fullest (bX11_fullest_0 ?_)
  refine up_ind t.1 (fun k => G κ mX11_fullest 6 [.ref 119, .int (fulF s.2.2.1 k).1, .int (nI (fulF s.2.2.1 k).2), .int (nI k), .null] [] M Q) ?_ ?_ 0 (Nat.zero_le _)
  · exact bX11_fullest_6 _ _ _ ⟨fun _ => h, fun c => absurd (by rw [hT.1]; exact Int32.le_refl _) c⟩
  · intro k hk ih
    refine bX11_fullest_6 _ _ _ ⟨fun c => ?_, fun _ => r_whoOn (by omega) hT ht hR hs (r_many (by have := whoF_lt s.2.2.1 (2 ^ k); omega) ?_)⟩
    · rw [hT.1] at c; exact absurd c (nI_ge hk (by omega))
    · have hp := popc_le (whoF s.2.2.1 (2 ^ k))
      have hfk := hf k
      unfold fulF at ih
      refine ⟨fun c => bX11_fullest_35 _ _ _ _ ⟨fun _ => ?_, fun c2 => absurd c c2⟩, fun c => bX11_fullest_35 _ _ _ _ ⟨fun c2 => absurd c2 c, fun _ => ?_⟩⟩
      · have := (nI_leI (by omega) (by omega)).mp c
        refine bX11_fullest_48 _ _ _ ?_
        rw [nI_1]
        rw [if_neg (by omega)] at ih
        exact ih
      · have : ¬ popc (whoF s.2.2.1 (2 ^ k)) ≤ (fulF s.2.2.1 k).2 := fun e => c (nI_le e (by omega))
        refine bX11_fullest_48 _ _ _ ?_
        rw [nI_1]
        rw [if_pos (by omega)] at ih
        exact ih
end Ref3
