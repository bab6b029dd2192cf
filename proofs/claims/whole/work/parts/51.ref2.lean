/-! THE REFERENCE: loops over the persons -/
theorem orL_tb (la : Nat → Nat) (x i : Nat) : ∀ k, (orL la x k).testBit i = true ↔ ∃ p, p < k ∧ x.testBit p = true ∧ (la p).testBit i = true := by
  intro k
  induction k with
  | zero => simp [orL]
  | succ k ih =>
    unfold orL
    by_cases h : x.testBit k = true
    · rw [if_pos h, Nat.testBit_or, Bool.or_eq_true, ih]
      constructor
      · rintro (⟨p, a, b, c⟩ | c)
        · exact ⟨p, by omega, b, c⟩
        · exact ⟨k, by omega, h, c⟩
      · rintro ⟨p, a, b, c⟩
        by_cases e : p = k
        · subst e; exact Or.inr c
        · exact Or.inl ⟨p, by omega, b, c⟩
    · rw [if_neg h, ih]
      constructor
      · rintro ⟨p, a, b, c⟩; exact ⟨p, by omega, b, c⟩
      · rintro ⟨p, a, b, c⟩
        by_cases e : p = k
        · subst e; exact absurd b h
        · exact ⟨p, by omega, b, c⟩
def orA (la : Nat → Nat) : Nat → Nat
  | 0 => 0
  | k + 1 => orA la k ||| la k
theorem orA_tb (la : Nat → Nat) (i : Nat) : ∀ k, (orA la k).testBit i = true ↔ ∃ p, p < k ∧ (la p).testBit i = true := by
  intro k
  induction k with
  | zero => simp [orA]
  | succ k ih =>
    unfold orA
    rw [Nat.testBit_or, Bool.or_eq_true, ih]
    constructor
    · rintro (⟨p, a, c⟩ | c)
      · exact ⟨p, by omega, c⟩
      · exact ⟨k, by omega, c⟩
    · rintro ⟨p, a, c⟩
      by_cases e : p = k
      · subst e; exact Or.inr c
      · exact Or.inl ⟨p, by omega, c⟩
theorem tb_ext {a b : Nat} (h : ∀ i, a.testBit i = true ↔ b.testBit i = true) : a = b := by
  apply Nat.eq_of_testBit_eq
  intro i
  have := h i
  cases ha : a.testBit i <;> cases hb : b.testBit i <;> simp_all
theorem orA_orL {la : Nat → Nat} {P : Nat} (hP : P ≤ 8) : orA la P = orL la (2 ^ P - 1) 8 := tb_ext fun i => by
  rw [orA_tb, orL_tb]
  constructor
  · rintro ⟨p, a, b⟩; exact ⟨p, by omega, by rw [Nat.testBit_two_pow_sub_one]; simp [a], b⟩
  · rintro ⟨p, a, b, c⟩; rw [Nat.testBit_two_pow_sub_one] at b; exact ⟨p, by simpa using b, c⟩
theorem orL_P {la : Nat → Nat} {P x : Nat} (hP : P ≤ 8) (h0 : ∀ p, P ≤ p → la p = 0) : orL la x P = orL la x 8 := tb_ext fun i => by
  rw [orL_tb, orL_tb]
  constructor
  · rintro ⟨p, a, b, c⟩; exact ⟨p, by omega, b, c⟩
  · rintro ⟨p, a, b, c⟩
    refine ⟨p, ?_, b, c⟩
    rcases Nat.lt_or_ge p P with d | d
    · exact d
    · rw [h0 p d] at c; simp at c
section Ref2
variable {κ : gK} {M : MM} {Q : Int32 → MM → Prop} {t : TW} {s : ST}
theorem stOk.P8 (ht : twOk t) (hT : TwR M t) {k : Nat} (hk : k < t.2.2.1) : ¬ M 119 2 ≤ nI k := by
  rw [hT.2.2.1]; exact nI_ge hk (by have := ht.2.1; omega)
theorem r_hears {light : Nat} (hT : TwR M t) (ht : twOk t) (hR : Rv M 122 0 s) (hs : stOk t s) (hl : light < 2 ^ 31) (h : Q (nI (hearF t light s)) M) : Cl κ mX11_hears [.ref 119, .int (nI light)] M Q := by
  have hP := ht.2.1
  refine eX11_hears _ (bX11_hears_0 _ ?_)
  refine up_ind t.2.2.1 (fun k => G κ mX11_hears 4 [.ref 119, .int (nI light), .int (nI (bits (hearB t light s) k)), .int (nI k)] [] M Q) ?_ ?_ 0 (Nat.zero_le _)
  · refine bX11_hears_4 _ _ _ ⟨fun _ => ?_, fun c => absurd (by rw [hT.2.2.1]; exact Int32.le_refl _) c⟩
    have e : bits (hearB t light s) t.2.2.1 = hearF t light s := bits_ext fun i => by
      by_cases a : i < t.2.2.1
      · have : i < 8 := by omega
        simp [a, this]
      · simp [hearB, a]
    rw [e]; exact h
  · intro k hk ih
    refine bX11_hears_4 _ _ _ ⟨fun c => absurd c (stOk.P8 ht hT hk), fun _ => ?_⟩
    rw [show (10 : Int32) = nI 10 from rfl, two_tN (by omega), hR.ea (by omega)]
    refine ⟨two_in (by omega), fun c => ?_, fun c => ?_⟩
    · refine bX11_hears_33 _ _ _ _ ?_
      have := (nI_ltI (by have := hs.2.2.2.2.2.1 k; omega) hl).mp c
      have h9 : ¬ light ≤ s.2.2.2.1 k := by omega
      rw [nI_1, show (0 : Int32) = nI 0 from rfl, nI_or, Nat.or_zero]
      unfold bits at ih
      rw [if_neg (by simp [hearB, h9])] at ih
      exact ih
    · refine bX11_hears_33 _ _ _ _ ?_
      have hge : light ≤ s.2.2.2.1 k := Nat.le_of_not_lt fun e => c (nI_lt e hl)
      rw [nI_1, one_shl (by omega), nI_or]
      unfold bits at ih
      rw [if_pos (by simp [hearB, hge, hk])] at ih
      exact ih
theorem hearF_lt (t : TW) (light : Nat) (s : ST) : hearF t light s < 256 := bits_lt _ 8
theorem crowS_P (ht : twOk t) (light : Nat) : crowS t light t.2.2.1 s = crowS t light 8 s := by
  have hP := ht.2.1
  unfold crowS
  have e : ∀ p, (p < t.2.2.1 ∧ hearB t light s p = true) ↔ (p < 8 ∧ hearB t light s p = true) := by
    intro p
    constructor
    · rintro ⟨a, b⟩; exact ⟨by omega, b⟩
    · rintro ⟨a, b⟩
      refine ⟨?_, b⟩
      simp only [hearB, Bool.and_eq_true, decide_eq_true_eq] at b
      exact b.1
  simp only [e]
theorem r_sounds {light : Nat} (hT : TwR M t) (ht : twOk t) (hR : Rv M 122 0 s) (hs : stOk t s) (hl : light < 2 ^ 31) (h : ∀ M', fr 122 123 M M' → Rv M' 122 0 (crowS t light 8 s) → Q 0 M') : Cl κ mX11_sounds [.ref 119, .int (nI light)] M Q := by
  have hP := ht.2.1
  have hF := hearF_lt t light s
  refine eX11_sounds _ (bX11_sounds_0 _ (r_hears hT ht hR hs hl ?_))
  refine up_ind t.2.2.1 (fun k => ∀ Mk, fr 122 123 M Mk → Rv Mk 122 0 (crowS t light k s) → G κ mX11_sounds 8 [.ref 119, .null, .int (nI (hearF t light s)), .int (nI k)] [] Mk Q) ?_ ?_ 0 (Nat.zero_le _) M fr.rf ?_
  · intro Mk hf hk
    have hTk : TwR Mk t := hT.fr hf (by omega)
    refine bX11_sounds_8 _ _ ⟨fun _ => h Mk hf ?_, fun c => absurd (by rw [hTk.2.2.1]; exact Int32.le_refl _) c⟩
    rw [← crowS_P ht]; exact hk
  · intro k hk ih Mk hf hRk
    have hTk : TwR Mk t := hT.fr hf (by omega)
    have hla2 : (crowS t light k s).2.2.1 k = s.2.2.1 k := by show (if _ then _ else _) = _; rw [if_neg (by omega)]
    have hhe2 : (crowS t light k s).2.2.2.2 k = s.2.2.2.2 k := by show (if _ then _ else _) = _; rw [if_neg (by omega)]
    have hbit : (hearF t light s).testBit k = hearB t light s k := by
      unfold hearF; rw [bits_tb]
      have : k < 8 := by omega
      simp [this]
    have hn2 : 2 ≤ t.1 := by rcases ht.1 with a | a <;> omega
    have ee : ∀ q, q ≠ k → ((q < k + 1 ∧ hearB t light s q = true) ↔ (q < k ∧ hearB t light s q = true)) := by
      intro q hq
      constructor
      · rintro ⟨a, b⟩; exact ⟨by omega, b⟩
      · rintro ⟨a, b⟩; exact ⟨by omega, b⟩
    refine bX11_sounds_8 _ _ ⟨fun c => absurd c (stOk.P8 ht hTk hk), fun _ => ⟨fun c => ⟨v8 (by omega), ?_⟩, fun c => ?_⟩⟩
    · have hb : hearB t light s k = true := by rw [← hbit]; exact (shr_bit (by omega) (by omega)).mp c
      refine r_layersOf (by omega) hRk ?_
      rw [tNI (by omega), hTk.2.2.2.2.1 k hk, hRk.1, hla2]
      refine r_crowed hTk ht hn2 (ht.2.2.2.1 k hk) (hs.2.2.1 k) (by have := hs.1; show s.1 < _; omega) ?_
      rw [show (2 : Int32) = nI 2 from rfl, show (18 : Int32) = nI 18 from rfl, two_tN (by omega), two_tN (by omega)]
      refine ⟨two_in (by omega), fun M3 e3 => ⟨two_in (by omega), ?_⟩⟩
      have hhe3 : M3 122 (18 + k) = nI (s.2.2.2.2 k) := by rw [e3, pt_k _ _ (by omega), hRk.he (by omega), hhe2]
      rw [hhe3]
      have fin : ∀ z, z = min (s.2.2.2.2 k + 1) 999999 → ∀ M4, M4 = pt M3 122 (18 + k) (nI z) → G κ mX11_sounds 85 [.ref 119, .null, .int (nI (hearF t light s)), .int (nI k)] [] M4 Q := by
        intro z hz M4 e4
        refine bX11_sounds_85 _ _ ?_
        rw [nI_1]
        refine ih M4 (by rw [e4, e3]; exact (hf.pt (by omega) (by omega)).pt (by omega) (by omega)) ⟨?_, ?_, fun q hq => ⟨?_, ?_, ?_⟩⟩
        · rw [e4, pt_k _ _ (by omega), e3, pt_k _ _ (by omega)]; exact hRk.1
        · rw [e4, pt_k _ _ (by omega), e3, pt_k _ _ (by omega)]; exact hRk.2.1
        · rw [e4, pt_k _ _ (by omega), e3]
          show _ = nI (if _ then _ else _)
          by_cases eq : q = k
          · subst eq
            rw [Nat.zero_add, pt_s, if_pos ⟨by omega, hb⟩]; rfl
          · rw [pt_k _ _ (by omega), (hRk.2.2 q hq).1]
            show nI (if _ then _ else _) = _
            simp only [ee q eq]
        · rw [e4, pt_k _ _ (by omega), e3, pt_k _ _ (by omega)]; exact (hRk.2.2 q hq).2.1
        · rw [e4]
          show _ = nI (if _ then _ else _)
          by_cases eq : q = k
          · subst eq
            rw [Nat.zero_add, pt_s, if_pos ⟨by omega, hb⟩, hz]
          · rw [pt_k _ _ (by omega), e3, pt_k _ _ (by omega), (hRk.2.2 q hq).2.2]
            show nI (if _ then _ else _) = _
            simp only [ee q eq]
      have h7 := hs.2.2.2.2.2.2 k
      refine ⟨fun c2 => ?_, fun c2 => ?_⟩
      · have := (nI_leI (a := 999999) (by decide) (by omega)).mp c2
        refine bX11_sounds_83 _ _ _ _ _ ⟨two_in (by omega), fun M4 e4 => fin _ rfl M4 ?_⟩
        rw [e4, two_tN (by omega), show (0 : Int32) = nI 0 from rfl, nI_add]
        rw [show min (s.2.2.2.2 k + 1) 999999 = s.2.2.2.2 k + 0 by omega]
      · have : ¬ 999999 ≤ s.2.2.2.2 k := fun e => c2 (nI_le (a := 999999) e (by omega))
        refine bX11_sounds_83 _ _ _ _ _ ⟨two_in (by omega), fun M4 e4 => fin _ rfl M4 ?_⟩
        rw [e4, two_tN (by omega), show (1 : Int32) = nI 1 from rfl, nI_add]
        rw [show min (s.2.2.2.2 k + 1) 999999 = s.2.2.2.2 k + 1 by omega]
    · have hb : hearB t light s k = false := by
        rw [← hbit]
        cases hb2 : (hearF t light s).testBit k with
        | true => exact absurd ((shr_bit (by omega) (by omega)).mpr hb2) c
        | false => rfl
      refine bX11_sounds_85 _ _ ?_
      rw [nI_1]
      have e1 : crowS t light (k + 1) s = crowS t light k s := by
        unfold crowS
        have e : ∀ p, (p < k + 1 ∧ hearB t light s p = true) ↔ (p < k ∧ hearB t light s p = true) := by
          intro p
          by_cases c : p = k
          · subst c; simp [hb]
          · exact ee p c
        simp only [e]
      exact ih Mk hf (by rw [e1]; exact hRk)
  · have e0 : crowS t light 0 s = s := by
      unfold crowS
      simp
    rw [e0]; exact hR
def itS (f : ST → ST) : Nat → ST → ST
  | 0, s => s
  | k + 1, s => itS f k (f s)
theorem dawnS_ok (ht : twOk t) (hs : stOk t s) (h : s.1 < 1000000) : stOk t (dawnS t s) := by
  have := crowS_ok (light := lightF t s.1) (k := 8) ht hs
  exact ⟨by show s.1 + 1 ≤ _; omega, this.2⟩
theorem lightF_lt (ht : twOk t) (d : Nat) : lightF t d < 2 ^ 31 := by
  unfold lightF
  split
  · decide
  · have := (ht.2.2.2.2 (d % t.2.2.2.1) (Nat.mod_lt _ (by omega))).2; omega
theorem r_goesOn {n : Nat} (hn : n < 2 ^ 31) (hT : TwR M t) (ht : twOk t) (hR : Rv M 122 0 s) (hs : stOk t s) (hd : s.1 + n ≤ 1000000) (h : ∀ M', fr 122 123 M M' → Rv M' 122 0 (itS (dawnS t) n s) → Q 0 M') : Cl κ mX11_goesOn [.ref 119, .int (nI n)] M Q := by
  refine eX11_goesOn _ (bX11_goesOn_0 _ ?_)
  refine up_ind n (fun k => ∀ Mk sk, fr 122 123 M Mk → Rv Mk 122 0 sk → stOk t sk → sk.1 + (n - k) ≤ 1000000 → itS (dawnS t) (n - k) sk = itS (dawnS t) n s → G κ mX11_goesOn 2 [.ref 119, .int (nI n), .int (nI k)] [] Mk Q) ?_ ?_ 0 (Nat.zero_le _) M s fr.rf hR hs (by omega) rfl
  · intro Mk sk hf hRk _ _ e
    refine bX11_goesOn_2 _ _ ⟨fun _ => h Mk hf ?_, fun c => absurd (Int32.le_refl _) c⟩
    rw [← e, Nat.sub_self]; exact hRk
  · intro k hk ih Mk sk hf hRk hsk hdk e
    have hTk : TwR Mk t := hT.fr hf (by omega)
    refine bX11_goesOn_2 _ _ ⟨fun c => absurd c (nI_ge hk hn), fun _ => ?_⟩
    rw [hRk.1]
    refine r_lightOf hTk ht (by omega) (r_sounds hTk ht hRk hsk (lightF_lt ht _) (fun M2 hf2 hR2 => ?_))
    rw [nI_1, hR2.1, nI_1]
    rintro M3 rfl
    refine ih (pt M2 122 0 (nI ((crowS t (lightF t sk.1) 8 sk).1 + 1))) (dawnS t sk) ((hf.tr hf2).pt (by omega) (by omega)) ⟨?_, ?_, fun q hq => ⟨?_, ?_, ?_⟩⟩ (dawnS_ok ht hsk (by omega)) (by show sk.1 + 1 + _ ≤ _; omega) ?_
    · rw [pt_s]; rfl
    · rw [pt_k _ _ (by omega)]; exact hR2.2.1
    · rw [pt_k _ _ (by omega)]; exact (hR2.2.2 q hq).1
    · rw [pt_k _ _ (by omega)]; exact (hR2.2.2 q hq).2.1
    · rw [pt_k _ _ (by omega)]; exact (hR2.2.2 q hq).2.2
    · rw [← e, show n - k = (n - (k + 1)) + 1 by omega]; rfl
end Ref2
