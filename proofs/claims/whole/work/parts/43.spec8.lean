/-! THE CLASS: State -/
def popN : Nat → Nat → Nat
  | 0, _ => 0
  | k + 1, x => x % 2 + popN k (x / 2)
/-- how many bits a set of at most nine has -/
def popc (x : Nat) : Nat := popN 9 x
def bcF (l0 : Int32) : Int32 :=
  let v1 := l0 - ((jush l0 1) &&& 1431655765)
  let v2 := (v1 &&& 858993459) + ((jush v1 2) &&& 858993459)
  let v3 := (v2 + (jush v2 4)) &&& 252645135
  let v4 := v3 + (jush v3 8)
  let v5 := v4 + (jush v4 16)
  v5 &&& 63
theorem bcF_ok : ∀ x : Nat, x < 512 → bcF (nI x) = nI (popc x) := by decide +kernel
theorem s_bitCount {κ : gK} {M : MM} {Q : Int32 → MM → Prop} {x : Nat} (hx : x < 512) (h : Q (nI (popc x)) M) : Cl κ mJ6_bitCount_0f7a4 [.int (nI x)] M Q := by
  refine eJ6_bitCount_0f7a4 _ (bJ6_bitCount_0f7a4_0 _ ?_)
  rintro v1 rfl v2 rfl v3 rfl v4 rfl v5 rfl
  have := bcF_ok x hx
  rw [← this] at h
  exact h
theorem popN_le : ∀ k x, popN k x ≤ k := by
  intro k
  induction k with
  | zero => intro x; exact Nat.le_refl _
  | succ k ih => intro x; unfold popN; have := ih (x / 2); have := Nat.mod_lt x (show 0 < 2 by decide); omega
theorem popc_le (x : Nat) : popc x ≤ 9 := popN_le 9 x
theorem c8 {k : Nat} (h : k < 8) : ¬ (8 : Int32) ≤ nI k := nI_ge h (by decide)
theorem v8 {k : Nat} (h : k < 8) : vp_in (nI k) 8 := vp_in_nI h (by decide)
theorem t8 {k : Nat} (h : k < 8) : (nI k).toNatClampNeg = k := nI_clamp (by omega)
theorem one_shl {k : Nat} (h : k < 32) : jshl 1 (nI k) = nI (2 ^ k) := by
  rw [show (1 : Int32) = nI 1 from rfl, jshl_nI h, Nat.one_mul]
theorem p31 {k : Nat} (h : k < 31) : 2 ^ k < 2 ^ 31 := Nat.pow_lt_pow_right (by decide) h
theorem and_p2 (x k : Nat) : x &&& 2 ^ k = 0 ↔ x.testBit k = false := by
  constructor
  · intro h
    have : (x &&& 2 ^ k).testBit k = false := by rw [h]; simp
    simpa [Nat.testBit_and, Nat.testBit_two_pow_self] using this
  · intro h
    apply Nat.eq_of_testBit_eq
    intro i
    rw [Nat.testBit_and, Nat.testBit_two_pow]
    by_cases e : k = i
    · subst e; simp [h]
    · simp [e]
theorem tb_and {x k : Nat} (hx : x < 2 ^ 31) (hk : k < 31) : (nI x &&& jshl 1 (nI k) = 0) ↔ x.testBit k = false := by
  rw [one_shl (by omega), nI_and, ← and_p2]
  exact ⟨fun h => nI_inj (b := 0) (Nat.lt_of_le_of_lt Nat.and_le_left hx) (by decide) h, fun h => by rw [h]; rfl⟩
def whoF (la : Nat → Nat) (x : Nat) : Nat := bits (fun p => decide (la p &&& x ≠ 0)) 8
def orL (la : Nat → Nat) (x : Nat) : Nat → Nat
  | 0 => 0
  | k + 1 => if x.testBit k = true then orL la x k ||| la k else orL la x k
def andL (la : Nat → Nat) (x : Nat) (z : Nat) : Nat → Nat
  | 0 => z
  | k + 1 => if x.testBit k = true then andL la x z k &&& la k else andL la x z k
theorem orL_lt {la : Nat → Nat} {n x : Nat} (h : ∀ p, la p < 2 ^ n) : ∀ k, orL la x k < 2 ^ n := by
  intro k
  induction k with
  | zero => exact Nat.two_pow_pos n
  | succ k ih =>
    unfold orL
    split
    · exact or_lt ih (h k)
    · exact ih
theorem andL_le (la : Nat → Nat) (x z : Nat) : ∀ k, andL la x z k ≤ z := by
  intro k
  induction k with
  | zero => exact Nat.le_refl _
  | succ k ih =>
    unfold andL
    split
    · exact Nat.le_trans Nat.and_le_left ih
    · exact ih
theorem whoF_lt (la : Nat → Nat) (x : Nat) : whoF la x < 256 := bits_lt _ 8
/-- which sets are the fewest persons on all layers: by sets as they rise -/
def covF (la : Nat → Nat) (all wanted : Nat) : Nat → Nat
  | 0 => all
  | k + 1 => if popc k < popc (covF la all wanted k) ∧ orL la k 8 = wanted then k else covF la all wanted k
def fulF (la : Nat → Nat) : Nat → Int32 × Nat
  | 0 => (-1, 0)
  | k + 1 => if (fulF la k).2 < popc (whoF la (2 ^ k)) then (nI k, popc (whoF la (2 ^ k))) else fulF la k
theorem covF_le (la : Nat → Nat) (all w : Nat) : ∀ k, k ≤ all + 1 → covF la all w k ≤ all := by
  intro k
  induction k with
  | zero => intro _; exact Nat.le_refl _
  | succ k ih =>
    intro h
    unfold covF
    split
    · omega
    · exact ih (by omega)
section Spec8
variable {κ : gK} {M : MM} {Q : Int32 → MM → Prop} {o : Nat} {t : TW} {s : ST}
theorem s_whoIsOn {x : Nat} (ho : stO o) (hS : Sv M o s) (hb : ∀ p, s.2.2.1 p < 512) (h : Q (nI (whoF s.2.2.1 x)) M) : Cl κ mX8_whoIsOn [.ref o, .int (nI x)] M Q := by
  refine eX8_whoIsOn o _ (bX8_whoIsOn_0 o ho _ ?_)
  refine up_ind 8 (fun k => G κ mX8_whoIsOn 4 [.ref o, .int (nI x), .int (nI (bits (fun p => decide (s.2.2.1 p &&& x ≠ 0)) k)), .int (nI k)] [] M Q) ?_ ?_ 0 (by decide)
  · exact bX8_whoIsOn_4 o ho _ _ _ ⟨fun _ => h, fun c => absurd (by decide) c⟩
  · intro k hk ih
    refine bX8_whoIsOn_4 o ho _ _ _ ⟨fun c => absurd c (c8 hk), fun _ => ⟨v8 hk, ?_⟩⟩
    rw [t8 hk, (hS.2.2 k hk).1, nI_and]
    have hlt : s.2.2.1 k &&& x < 2 ^ 31 := Nat.lt_of_le_of_lt Nat.and_le_left (by have := hb k; omega)
    refine ⟨fun c => ?_, fun c => ?_⟩
    · have e := nI_inj (b := 0) hlt (by decide) c
      refine bX8_whoIsOn_27 o ho _ _ _ ?_
      rw [nI_1]
      unfold bits at ih
      rw [if_neg (by simp [e])] at ih
      exact ih
    · rintro v1 rfl
      refine bX8_whoIsOn_27 o ho _ _ _ ?_
      rw [nI_1, one_shl (by omega), nI_or]
      unfold bits at ih
      rw [if_pos (by simp; exact fun e => c (by rw [e]; rfl))] at ih
      exact ih
theorem s_everybody (ho : stO o) (hS : Sv M o s) (hb : ∀ p, s.2.2.1 p < 512) (h : Q (nI (whoF s.2.2.1 511)) M) : Cl κ mX8_everybody [.ref o] M Q :=
  eX8_everybody o (bX8_everybody_0 o ho (s_whoIsOn (x := 511) ho hS hb h))
theorem s_layersOf {x : Nat} (ho : stO o) (hS : Sv M o s) (hb : ∀ p, s.2.2.1 p < 512) (hx : x < 2 ^ 31) (h : Q (nI (orL s.2.2.1 x 8)) M) : Cl κ mX8_layersOf [.ref o, .int (nI x)] M Q := by
  refine eX8_layersOf o _ (bX8_layersOf_0 o ho _ ?_)
  refine up_ind 8 (fun k => G κ mX8_layersOf 4 [.ref o, .int (nI x), .int (nI (orL s.2.2.1 x k)), .int (nI k)] [] M Q) ?_ ?_ 0 (by decide)
  · exact bX8_layersOf_4 o ho _ _ _ ⟨fun _ => h, fun c => absurd (by decide) c⟩
  · intro k hk ih
    refine bX8_layersOf_4 o ho _ _ _ ⟨fun c => absurd c (c8 hk), fun _ => ⟨fun c => ?_, fun c => ⟨v8 hk, ?_⟩⟩⟩
    · refine bX8_layersOf_27 o ho _ _ _ ?_
      rw [nI_1]
      unfold orL at ih
      rw [if_neg (by rw [(tb_and hx (by omega)).mp c]; decide)] at ih
      exact ih
    · rintro v1 rfl
      refine bX8_layersOf_27 o ho _ _ _ ?_
      rw [nI_1, t8 hk, (hS.2.2 k hk).1, nI_or]
      unfold orL at ih
      rw [if_pos (by cases hb2 : x.testBit k with | true => rfl | false => exact absurd ((tb_and hx (by omega)).mpr hb2) c)] at ih
      exact ih
theorem s_areTogether {x : Nat} (ho : stO o) (hS : Sv M o s) (hb : ∀ p, s.2.2.1 p < 512) (hx : x < 2 ^ 31) (h1 : andL s.2.2.1 x 511 8 ≠ 0 → Q 1 M) (h0 : andL s.2.2.1 x 511 8 = 0 → Q 0 M) : Cl κ mX8_areTogether [.ref o, .int (nI x)] M Q := by
  refine eX8_areTogether o _ (bX8_areTogether_0 o ho _ ?_)
  refine up_ind 8 (fun k => G κ mX8_areTogether 6 [.ref o, .int (nI x), .int (nI (andL s.2.2.1 x 511 k)), .int (nI k)] [] M Q) ?_ ?_ 0 (by decide)
  · have hl : andL s.2.2.1 x 511 8 < 2 ^ 31 := Nat.lt_of_le_of_lt (andL_le _ _ _ 8) (by decide)
    refine bX8_areTogether_6 o ho _ _ _ ⟨fun _ => ⟨fun c => ?_, fun c => ?_⟩, fun c => absurd (by decide) c⟩
    · exact bX8_areTogether_44 o ho 0 ⟨Or.inl rfl, h0 (nI_inj (b := 0) hl (by decide) c)⟩
    · exact bX8_areTogether_44 o ho 1 ⟨Or.inr rfl, h1 (fun e => c (by rw [e]; rfl))⟩
  · intro k hk ih
    refine bX8_areTogether_6 o ho _ _ _ ⟨fun c => absurd c (c8 hk), fun _ => ⟨fun c => ?_, fun c => ⟨v8 hk, ?_⟩⟩⟩
    · refine bX8_areTogether_29 o ho _ _ _ ?_
      rw [nI_1]
      unfold andL at ih
      rw [if_neg (by rw [(tb_and hx (by omega)).mp c]; decide)] at ih
      exact ih
    · rintro v1 rfl
      refine bX8_areTogether_29 o ho _ _ _ ?_
      rw [nI_1, t8 hk, (hS.2.2 k hk).1, nI_and]
      unfold andL at ih
      rw [if_pos (by cases hb2 : x.testBit k with | true => rfl | false => exact absurd ((tb_and hx (by omega)).mpr hb2) c)] at ih
      exact ih
theorem s_isWhere {o1 : Nat} {s1 : ST} (ho : stO o) (ho1 : stO o1) (hS : Sv M o s) (hS1 : Sv M o1 s1) (hb : ∀ p, s.2.2.1 p < 512) (hb1 : ∀ p, s1.2.2.1 p < 512) (h1 : (∀ p, p < 8 → s.2.2.1 p = s1.2.2.1 p) → Q 1 M) (h0 : (¬ ∀ p, p < 8 → s.2.2.1 p = s1.2.2.1 p) → Q 0 M) : Cl κ mX8_isWhere [.ref o, .ref o1] M Q := by
  refine eX8_isWhere o o1 (bX8_isWhere_0 o o1 ho ho1 ?_)
  refine up_ind 8 (fun k => (∀ p, p < k → s.2.2.1 p = s1.2.2.1 p) → G κ mX8_isWhere 2 [.ref o, .ref o1, .int (nI k)] [] M Q) ?_ ?_ 0 (by decide) (fun p hp => absurd hp (by omega))
  · exact fun e => bX8_isWhere_2 o o1 ho ho1 _ ⟨fun _ => h1 e, fun c => absurd (by decide) c⟩
  · intro k hk ih e
    refine bX8_isWhere_2 o o1 ho ho1 _ ⟨fun c => absurd c (c8 hk), fun _ => ⟨v8 hk, ?_⟩⟩
    rw [t8 hk, (hS.2.2 k hk).1, (hS1.2.2 k hk).1]
    refine ⟨fun c => ?_, fun c => h0 (fun e2 => c (by rw [e2 k hk]))⟩
    rw [nI_1]
    refine ih (fun p hp => ?_)
    rcases Nat.lt_or_ge p k with h | h
    · exact e p h
    · have : p = k := by omega
      subst this
      exact nI_inj (by have := hb p; omega) (by have := hb1 p; omega) c
theorem s_onSeveral (ho : stO o) (hS : Sv M o s) (hb : ∀ p, s.2.2.1 p < 512) (h : Q (nI (bits (fun p => decide (1 < popc (s.2.2.1 p))) 8)) M) : Cl κ mX8_onSeveral [.ref o] M Q := by
  refine eX8_onSeveral o (bX8_onSeveral_0 o ho ?_)
  refine up_ind 8 (fun k => G κ mX8_onSeveral 4 [.ref o, .int (nI (bits (fun p => decide (1 < popc (s.2.2.1 p))) k)), .int (nI k)] [] M Q) ?_ ?_ 0 (by decide)
  · exact bX8_onSeveral_4 o ho _ _ ⟨fun _ => h, fun c => absurd (by decide) c⟩
  · intro k hk ih
    refine bX8_onSeveral_4 o ho _ _ ⟨fun c => absurd c (c8 hk), fun _ => ⟨v8 hk, ?_⟩⟩
    rw [t8 hk, (hS.2.2 k hk).1]
    have hp := popc_le (s.2.2.1 k)
    refine s_bitCount (hb k) ⟨fun c => ?_, fun c => ?_⟩
    · refine bX8_onSeveral_29 o ho _ _ ?_
      have := (nI_leI (b := 1) (by omega) (by decide)).mp c
      rw [nI_1]
      unfold bits at ih
      rw [if_neg (by simp; omega)] at ih
      exact ih
    · rintro v1 rfl
      refine bX8_onSeveral_29 o ho _ _ ?_
      have : ¬ popc (s.2.2.1 k) ≤ 1 := fun e => c ((nI_leI (b := 1) (by omega) (by decide)).mpr e)
      rw [nI_1, one_shl (by omega), nI_or]
      unfold bits at ih
      rw [if_pos (by simp; omega)] at ih
      exact ih
theorem s_cover (ho : stO o) (hS : Sv M o s) (hb : ∀ p, s.2.2.1 p < 512) (h : Q (nI (covF s.2.2.1 (whoF s.2.2.1 511) (orL s.2.2.1 (whoF s.2.2.1 511) 8) (whoF s.2.2.1 511))) M) : Cl κ mX8_cover [.ref o] M Q := by
  have hw := whoF_lt s.2.2.1 511
  refine eX8_cover o (bX8_cover_0 o ho (s_everybody ho hS hb (s_layersOf ho hS hb (by omega) ?_)))
  generalize whoF s.2.2.1 511 = a at *
  have hol : ∀ x, orL s.2.2.1 x 8 < 2 ^ 9 := fun x => orL_lt (n := 9) hb 8
  refine up_ind a (fun k => G κ mX8_cover 16 [.ref o, .int (nI a), .int (nI (orL s.2.2.1 a 8)), .int (nI (covF s.2.2.1 a (orL s.2.2.1 a 8) k)), .int (nI k)] [] M Q) ?_ ?_ 0 (Nat.zero_le _)
  · exact bX8_cover_16 o ho _ _ _ _ ⟨fun _ => h, fun c => absurd (Int32.le_refl _) c⟩
  · intro k hk ih
    have hc := covF_le s.2.2.1 a (orL s.2.2.1 a 8) k (by omega)
    refine bX8_cover_16 o ho _ _ _ _ ⟨fun c => absurd c (nI_ge hk (by omega)), fun _ => s_bitCount (by omega) (s_bitCount (by omega) ⟨fun c => ?_, fun c => ?_⟩)⟩
    · have := (nI_leI (by have := popc_le (covF s.2.2.1 a (orL s.2.2.1 a 8) k); omega) (by have := popc_le k; omega)).mp c
      refine bX8_cover_47 o ho _ _ _ _ ?_
      rw [nI_1]
      unfold covF at ih
      rw [if_neg (by omega)] at ih
      exact ih
    · have hlt : popc k < popc (covF s.2.2.1 a (orL s.2.2.1 a 8) k) := Nat.lt_of_not_le fun e => c ((nI_leI (by have := popc_le (covF s.2.2.1 a (orL s.2.2.1 a 8) k); omega) (by have := popc_le k; omega)).mpr e)
      refine s_layersOf ho hS hb (by omega) ⟨fun c2 => ?_, fun c2 => ?_⟩
      · have e := nI_inj (by have := hol k; omega) (by have := hol a; omega) c2
        refine bX8_cover_47 o ho _ _ _ _ ?_
        rw [nI_1]
        unfold covF at ih
        rw [if_pos ⟨hlt, e⟩] at ih
        exact ih
      · refine bX8_cover_47 o ho _ _ _ _ ?_
        rw [nI_1]
        unfold covF at ih
        rw [if_neg (fun e => c2 (by rw [e.2]))] at ih
        exact ih
theorem s_fullest (ho : stO o) (hS : Sv M o s) (hb : ∀ p, s.2.2.1 p < 512) (h : Q (fulF s.2.2.1 9).1 M) : Cl κ mX8_fullest [.ref o] M Q := by
  have hf : ∀ k, (fulF s.2.2.1 k).2 ≤ 9 := by
    intro k
    induction k with
    | zero => exact Nat.zero_le 9
    | succ k ih =>
      unfold fulF
      split
      · exact popc_le _
      · exact ih
  refine eX8_fullest o (bX8_fullest_0 o ho ?_)
  refine up_ind 9 (fun k => G κ mX8_fullest 6 [.ref o, .int (fulF s.2.2.1 k).1, .int (nI (fulF s.2.2.1 k).2), .int (nI k), .null] [] M Q) ?_ ?_ 0 (by decide)
  · exact bX8_fullest_6 o ho _ _ _ ⟨fun _ => h, fun c => absurd (by decide) c⟩
  · intro k hk ih
    refine bX8_fullest_6 o ho _ _ _ ⟨fun c => absurd c (nI_ge hk (by decide)), fun _ => ?_⟩
    rw [one_shl (by omega)]
    have hp := popc_le (whoF s.2.2.1 (2 ^ k))
    have hfk := hf k
    refine s_whoIsOn ho hS hb (s_bitCount (by have := whoF_lt s.2.2.1 (2 ^ k); omega) ⟨fun c => ?_, fun c => ?_⟩)
    · have := (nI_leI (by omega) (by omega)).mp c
      refine bX8_fullest_35 o ho _ _ _ ?_
      rw [nI_1]
      unfold fulF at ih
      rw [if_neg (by omega)] at ih
      exact ih
    · have : ¬ popc (whoF s.2.2.1 (2 ^ k)) ≤ (fulF s.2.2.1 k).2 := fun e => c ((nI_leI (by omega) (by omega)).mpr e)
      refine bX8_fullest_35 o ho _ _ _ ?_
      rw [nI_1]
      unfold fulF at ih
      rw [if_pos (by omega)] at ih
      exact ih
end Spec8
