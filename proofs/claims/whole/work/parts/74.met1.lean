/-! WHO MET: on how many layers persons can have been. c = (count, ones, others, dids) -/
def obP (c : A4) (S : Nat) : Prop := ∀ i, i < c.1 → (c.2.2.2 i = 0 → ¬ (S.testBit (c.2.1 i) = true ∧ S.testBit (c.2.2.1 i) = true)) ∧ (c.2.2.2 i ≠ 0 → S.testBit (c.2.1 i) = S.testBit (c.2.2.1 i))
def EX (c : A4) (S k : Nat) : Prop := ∃ g : Nat → Nat, (∀ p, S.testBit p = true → g p < k) ∧ ∀ i, i < c.1 → (c.2.2.2 i = 0 → S.testBit (c.2.1 i) = true → S.testBit (c.2.2.1 i) = true → g (c.2.1 i) ≠ g (c.2.2.1 i)) ∧ (c.2.2.2 i ≠ 0 → S.testBit (c.2.1 i) = S.testBit (c.2.2.1 i) ∧ (S.testBit (c.2.1 i) = true → g (c.2.1 i) = g (c.2.2.1 i)))
theorem EX_0 (c : A4) (k : Nat) : EX c 0 k := ⟨fun _ => 0, fun p hp => by rw [Nat.zero_testBit] at hp; exact absurd hp (by decide), fun i _ => ⟨fun _ h => by rw [Nat.zero_testBit] at h; exact absurd h (by decide), fun _ => ⟨by rw [Nat.zero_testBit, Nat.zero_testBit], fun _ => rfl⟩⟩⟩
theorem EX_z {c : A4} {S : Nat} (h : EX c S 0) : S = 0 := by
  obtain ⟨g, h1, _⟩ := h
  refine Nat.eq_of_testBit_eq (fun i => ?_)
  rw [Nat.zero_testBit]
  cases e : S.testBit i with
  | false => rfl
  | true => exact absurd (h1 i e) (Nat.not_lt_zero _)
theorem EX_mono {c : A4} {S k m : Nat} (h : EX c S k) (hm : k ≤ m) : EX c S m := by
  obtain ⟨g, h1, h2⟩ := h
  exact ⟨g, fun p hp => Nat.lt_of_lt_of_le (h1 p hp) hm, h2⟩
/-- one more layer -/
theorem EX_add {c : A4} {B R k : Nat} (hB : obP c B) (hd : ∀ p, B.testBit p = true → R.testBit p = false) (h : EX c R k) : EX c (B ||| R) (k + 1) := by
  obtain ⟨g, h1, h2⟩ := h
  refine ⟨fun p => if B.testBit p = true then k else g p, fun p hp => ?_, fun i hi => ?_⟩
  · show (if _ then _ else _) < _
    split
    · omega
    · rename_i q
      rw [Nat.testBit_or] at hp
      cases e : B.testBit p with
      | true => exact absurd e q
      | false => rw [e, Bool.false_or] at hp; exact Nat.lt_succ_of_lt (h1 p hp)
  · obtain ⟨o1, o2⟩ := hB i hi
    obtain ⟨e1, e2⟩ := h2 i hi
    refine ⟨fun hz => ?_, fun hz => ?_⟩
    · have o1 := o1 hz
      have e1 := e1 hz
      intro hp hq
      rw [Nat.testBit_or, Bool.or_eq_true] at hp hq
      show (if _ then _ else _) ≠ (if _ then _ else _)
      by_cases bp : B.testBit (c.2.1 i) = true
      · by_cases bq : B.testBit (c.2.2.1 i) = true
        · exact absurd ⟨bp, bq⟩ o1
        · rw [if_pos bp, if_neg bq]
          have := h1 _ (hq.resolve_left bq)
          omega
      · by_cases bq : B.testBit (c.2.2.1 i) = true
        · rw [if_neg bp, if_pos bq]
          have := h1 _ (hp.resolve_left bp)
          omega
        · rw [if_neg bp, if_neg bq]
          exact e1 (hp.resolve_left bp) (hq.resolve_left bq)
    · have o2 := o2 hz
      obtain ⟨e2, e3⟩ := e2 hz
      refine ⟨by rw [Nat.testBit_or, Nat.testBit_or, o2, e2], fun hp => ?_⟩
      show (if _ then _ else _) = (if _ then _ else _)
      rw [Nat.testBit_or, Bool.or_eq_true] at hp
      rw [← o2]
      split
      · rfl
      · rename_i q
        exact e3 (hp.resolve_left q)
/-- the layer that somebody is on, taken off -/
theorem EX_off {c : A4} {S k x : Nat} (hS : S < 256) (hx : S.testBit x = true) (h : EX c S (k + 1)) : ∃ B R, obP c B ∧ B.testBit x = true ∧ (∀ p, B.testBit p = true → S.testBit p = true) ∧ (∀ p, R.testBit p = (S.testBit p && !(B.testBit p))) ∧ EX c R k := by
  obtain ⟨g, h1, h2⟩ := h
  have tbB : ∀ p, (bits (fun p => S.testBit p && decide (g p = g x)) 8).testBit p = (S.testBit p && decide (g p = g x)) := by
    intro p
    rw [bits_tb]
    by_cases q : p < 8
    · rw [decide_eq_true q, Bool.true_and]
    · have : S.testBit p = false := Nat.testBit_lt_two_pow (Nat.lt_of_lt_of_le hS (Nat.pow_le_pow_right (n := 2) (i := 8) (by decide) (by omega)))
      rw [decide_eq_false q, this]; rfl
  have tbR : ∀ p, (bits (fun p => S.testBit p && decide (g p ≠ g x)) 8).testBit p = (S.testBit p && decide (g p ≠ g x)) := by
    intro p
    rw [bits_tb]
    by_cases q : p < 8
    · rw [decide_eq_true q, Bool.true_and]
    · have : S.testBit p = false := Nat.testBit_lt_two_pow (Nat.lt_of_lt_of_le hS (Nat.pow_le_pow_right (n := 2) (i := 8) (by decide) (by omega)))
      rw [decide_eq_false q, this]; rfl
  refine ⟨bits (fun p => S.testBit p && decide (g p = g x)) 8, bits (fun p => S.testBit p && decide (g p ≠ g x)) 8, fun i hi => ?_, ?_, fun p hp => ?_, fun p => ?_, fun p => if g p = k then g x else g p, fun p hp => ?_, fun i hi => ?_⟩
  · obtain ⟨e1, e2⟩ := h2 i hi
    rw [tbB, tbB]
    refine ⟨fun hz => ?_, fun hz => ?_⟩
    · rw [Bool.and_eq_true, Bool.and_eq_true, decide_eq_true_eq, decide_eq_true_eq]
      rintro ⟨⟨a1, a2⟩, a3, a4⟩
      exact e1 hz a1 a3 (a2.trans a4.symm)
    · obtain ⟨a1, a2⟩ := e2 hz
      rw [← a1]
      cases e : S.testBit (c.2.1 i) with
      | false => rfl
      | true => rw [a2 e]
  · rw [tbB, hx, decide_eq_true rfl]; rfl
  · rw [tbB, Bool.and_eq_true] at hp; exact hp.1
  · rw [tbB, tbR]
    cases S.testBit p with
    | false => rfl
    | true =>
      by_cases q : g p = g x
      · rw [decide_eq_true q, decide_eq_false (fun z => z q)]; rfl
      · rw [decide_eq_false q, decide_eq_true q]; rfl
  · rw [tbR, Bool.and_eq_true, decide_eq_true_eq] at hp
    have a1 := h1 p hp.1
    have a2 := h1 x hx
    have a3 := hp.2
    show (if _ then _ else _) < _
    split <;> omega
  · obtain ⟨e1, e2⟩ := h2 i hi
    rw [tbR, tbR]
    refine ⟨fun hz hp hq => ?_, fun hz => ?_⟩
    · rw [Bool.and_eq_true, decide_eq_true_eq] at hp hq
      have a1 := e1 hz hp.1 hq.1
      have a2 := hp.2
      have a3 := hq.2
      show (if _ then _ else _) ≠ (if _ then _ else _)
      split <;> split <;> omega
    · obtain ⟨a1, a2⟩ := e2 hz
      rw [← a1]
      cases e : S.testBit (c.2.1 i) with
      | false => exact ⟨rfl, fun q => by rw [Bool.false_and] at q; cases q⟩
      | true =>
        have a2 := a2 e
        refine ⟨by rw [a2], fun _ => ?_⟩
        show (if _ then _ else _) = (if _ then _ else _)
        rw [a2]
/-- no more layers are wanted than persons -/
theorem EX_cap {c : A4} : ∀ P S k, P ≤ 8 → S < 2 ^ P → EX c S k → EX c S P := by
  intro P
  induction P with
  | zero =>
    intro S k _ hS _
    have : S = 0 := by omega
    rw [this]; exact EX_0 c 0
  | succ P ih =>
    intro S k hP hS h
    have h256 : S < 256 := Nat.lt_of_lt_of_le hS (Nat.pow_le_pow_right (n := 2) (j := 8) (by decide) hP)
    by_cases hb : S.testBit P = true
    · match k, h with
      | 0, h => rw [EX_z h]; exact EX_0 c _
      | k + 1, h =>
        obtain ⟨B, R, b1, b2, b3, b4, b5⟩ := EX_off h256 hb h
        have hR : R < 2 ^ P := by
          refine Nat.lt_pow_two_of_testBit R (fun i hi => ?_)
          rw [b4]
          rcases Nat.lt_or_ge i (P + 1) with q | q
          · have : i = P := by omega
            rw [this, b2]; simp
          · rw [Nat.testBit_lt_two_pow (Nat.lt_of_lt_of_le hS (Nat.pow_le_pow_right (by decide) q))]; rfl
        have e : S = B ||| R := by
          refine Nat.eq_of_testBit_eq (fun i => ?_)
          rw [Nat.testBit_or, b4]
          have := b3 i
          cases e : B.testBit i with
          | true => rw [this e]; rfl
          | false => simp
        rw [e]
        exact EX_add b1 (fun p hp => by rw [b4, hp]; simp) (ih R k (by omega) hR b5)
    · have hS2 : S < 2 ^ P := by
        refine Nat.lt_pow_two_of_testBit S (fun i hi => ?_)
        rcases Nat.lt_or_ge i (P + 1) with q | q
        · have : i = P := by omega
          rw [this]; exact Bool.eq_false_iff.mpr hb
        · exact Nat.testBit_lt_two_pow (Nat.lt_of_lt_of_le hS (Nat.pow_le_pow_right (by decide) q))
      exact EX_mono (ih S k (by omega) hS2 h) (Nat.le_succ P)
/-- going down through the parts of a set misses none -/
theorem and_2 (a b : Nat) : a &&& b = 2 * (a / 2 &&& b / 2) + (a % 2 &&& b % 2) := by
  have h1 : (a &&& b) / 2 = a / 2 &&& b / 2 := Nat.and_div_two
  have h2 : (a &&& b) % 2 = a % 2 &&& b % 2 := Nat.and_mod_two_pow (n := 1)
  omega
theorem sub_next : ∀ P X r, X &&& r = X → P &&& r = P → X < P → X ≤ (P - 1) &&& r := by
  intro P
  induction P using Nat.strongRecOn with
  | ind P ih =>
    intro X r hX hP h
    rw [and_2] at hX hP
    have rm : r % 2 = 0 ∨ r % 2 = 1 := by omega
    have xm : X % 2 = 0 ∨ X % 2 = 1 := by omega
    have pm : P % 2 = 0 ∨ P % 2 = 1 := by omega
    have z0 : (0 : Nat) &&& 0 = 0 := by decide
    have z1 : (0 : Nat) &&& 1 = 0 := by decide
    have z2 : (1 : Nat) &&& 0 = 0 := by decide
    have z3 : (1 : Nat) &&& 1 = 1 := by decide
    have X2 : X / 2 &&& r / 2 = X / 2 := by
      rcases rm with e1 | e1 <;> rcases xm with e2 | e2 <;> rw [e1, e2] at hX <;> simp only [z0, z1, z2, z3] at hX <;> omega
    have P2 : P / 2 &&& r / 2 = P / 2 := by
      rcases rm with e1 | e1 <;> rcases pm with e2 | e2 <;> rw [e1, e2] at hP <;> simp only [z0, z1, z2, z3] at hP <;> omega
    rw [and_2]
    rcases pm with e2 | e2
    · have q1 : (P - 1) / 2 = P / 2 - 1 := by omega
      have q2 : (P - 1) % 2 = 1 := by omega
      have := ih (P / 2) (by omega) (X / 2) (r / 2) X2 P2 (by omega)
      rw [q1, q2]
      rcases rm with e1 | e1 <;> rcases xm with e3 | e3 <;> rw [e1, e3] at hX <;> rw [e1] <;> simp only [z0, z1, z2, z3] at hX ⊢ <;> omega
    · have q1 : (P - 1) / 2 = P / 2 := by omega
      rw [q1, P2]
      omega
theorem tb_lt {a i : Nat} (h : a < 256) (hi : a.testBit i = true) : i < 8 := by
  rcases Nat.lt_or_ge i 8 with q | q
  · exact q
  · rw [Nat.testBit_lt_two_pow (Nat.lt_of_lt_of_le h (Nat.pow_le_pow_right (n := 2) (i := 8) (by decide) q))] at hi
    exact absurd hi (by decide)
theorem and_tb {a b : Nat} (h : a &&& b = a) {i : Nat} (hi : a.testBit i = true) : b.testBit i = true := by
  rw [← h, Nat.testBit_and, Bool.and_eq_true] at hi
  exact hi.2
theorem tb_and_eq {a b : Nat} (h : ∀ i, a.testBit i = true → b.testBit i = true) : a &&& b = a := by
  refine Nat.eq_of_testBit_eq (fun i => ?_)
  rw [Nat.testBit_and]
  cases e : a.testBit i with
  | false => rfl
  | true => rw [h i e]; rfl
theorem least_of : ∀ S : Nat, S < 256 → S ≠ 0 → ∃ x, x < 8 ∧ nI S &&& (-nI S) = nI (2 ^ x) ∧ S.testBit x = true ∧ nI S &&& ((nI S &&& (-nI S)) ^^^ (-1)) = nI (S - 2 ^ x) ∧ (S - 2 ^ x) ||| 2 ^ x = S ∧ (S - 2 ^ x) &&& 2 ^ x = 0 ∧ S - 2 ^ x < S := by decide +kernel
theorem nI_andn {r X : Nat} (hr : r < 256) (hX : X < 256) (h : X &&& r = X) : nI r &&& (nI X ^^^ (-1)) = nI (r ^^^ X) := by
  apply b_extQ
  intro i hi
  rw [Int32.toBitVec_and, BitVec.getLsbD_and, Int32.toBitVec_xor, BitVec.getLsbD_xor, b_m1Q i hi, nI_bv, nI_bv, nI_bv, BitVec.getLsbD_ofNat, BitVec.getLsbD_ofNat, BitVec.getLsbD_ofNat, Nat.testBit_xor]
  have := @and_tb X r h i
  cases e : X.testBit i with
  | true => rw [this e]; simp
  | false => simp
